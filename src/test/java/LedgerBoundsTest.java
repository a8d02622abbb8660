/**
 * The boundaries that the document names in its terms, part 1 (the ledger, TO PAY, a CALL and its
 * STEPS), sentence by sentence: the last input on this side and the first one behind it.
 */
public final class LedgerBoundsTest {
    private static final int SET = 0, GET = 1, ADD = 2, LESS = 3, NEED = 4, PAY = 5, EVENT = 6;
    private static final int UNLESS = 7, ASK = 8, TRY = 9, AGE = 10, PART = 11;
    private static final int COINS = 1000000000;
    private static final int LEAST = Integer.MIN_VALUE, MOST = Integer.MAX_VALUE;

    private LedgerBoundsTest() {
    }

    public static void main(String[] args) {
        accountsHaveCoins();
        contractsHaveAccounts();
        contractsAsTheyAreMade();
        cells();
        upToEightSteps();
        facesAreBound();
        fortyEvents();
        lostEventsInTry();
        theState();
        payBelowZero();
        payMoreThanItHas();
        payMoreThanTheOtherMayHave();
        payFirstOneThenTwo();
        payToItself();
        callPays();
        callAnswersValue();
        aThrowHasChangedNothing();
        setAndGet();
        need();
        needNumbers();
        pay();
        unless();
        ask();
        askNone();
        askFourAtWork();
        noneAheadOfFour();
        causes();
        askByTheContract();
        tryHolds();
        tryHoldsEach();
        tryStateAsAhead();
        tryGoesOnBehind();
        mostTries();
        age();
        part();
        nextAreThoseThatThereAre();
        nextWithinTry();
        sumsWrap();
        stepsCount();
        stepsAreCovered();
        unlessIsCovered();
        Due.end();
    }

    /** "ACCOUNTS 0 .. 11 have COINS (0 .. 1000000000; 0 at first)" */
    private static void accountsHaveCoins() {
        LedgerTests x = new LedgerTests();
        for (int a = 0; a <= 11; a++) {
            Due.is("0 at first, " + a, x.coins(a), 0);
            Due.is("most coins of " + a, x.account(a, COINS), 1);
            Due.is("one more for " + a, x.account(a, COINS + 1), -1);
            Due.is("has them, " + a, x.coins(a), COINS);
            Due.is("none for " + a, x.account(a, 0), 1);
            Due.is("below none for " + a, x.account(a, -1), -1);
            Due.is("has none, " + a, x.coins(a), 0);
        }
        Due.is("ACCOUNT -1", x.account(-1, 1), -1);
        Due.is("ACCOUNT 12", x.account(12, 1), -1);
        Due.is("coins of -1", x.coins(-1), -1);
        Due.is("coins of 12", x.coins(12), -1);
        for (int a = 0; a <= 11; a++) {
            Due.is("still none, " + a, x.coins(a), 0);
        }
    }

    /** "8 + c is CONTRACT c's" */
    private static void contractsHaveAccounts() {
        for (int c = 0; c <= 3; c++) {
            LedgerTests x = Made.contracts(4);
            x.account(0, 9);
            Due.is("coins for CONTRACT " + c, x.call(0, c, 0, 0, 9), 1);
            for (int a = 0; a <= 11; a++) {
                Due.is("CONTRACT " + c + ", coins of " + a, x.coins(a), a == 8 + c ? 9 : 0);
            }
        }
        LedgerTests y = new LedgerTests();
        Due.is("ahead of the CONTRACT", y.account(11, 5), 1);
        Due.is("ahead of the CONTRACT", y.coins(11), 5);
    }

    /** "CONTRACTS 0 .. 3, as they are made" */
    private static void contractsAsTheyAreMade() {
        LedgerTests x = new LedgerTests();
        for (int c = 0; c <= 3; c++) {
            Due.is("not yet: call " + c, x.call(0, c, 0, 5, 0), -1);
            Due.is("not yet: step " + c, x.step(c, 0, ADD, 0, 1), -1);
            Due.is("not yet: bind " + c, x.bind(0, c, 0), -1);
            Due.is("not yet: covered " + c, x.covered(c, 0), -1);
            Due.is("not yet: mutants " + c, x.mutants(c), -1);
            Due.is("contract", x.contract(), c);
            Due.is("made: covered " + c, x.covered(c, 0), 0);
            Due.is("made: mutants " + c, x.mutants(c), 0);
            Due.is("made: call " + c, x.call(0, c, 0, 5, 0), 1);
            Due.is("made: bind " + c, x.bind(0, c, 0), 1);
            Due.is("made: step " + c, x.step(c, 0, ADD, 0, 1), 1);
        }
        Due.is("a fifth one", x.contract(), -2);
        Due.is("four", x.count(2), 4);
        Due.is("call 4", x.call(0, 4, 0, 5, 0), -1);
        Due.is("call -1", x.call(0, -1, 0, 5, 0), -1);
    }

    /** "have CELLS 0 .. 3 (ints, 0)" */
    private static void cells() {
        for (int c = 0; c <= 3; c++) {
            for (int i = 0; i <= 3; i++) {
                LedgerTests x = Made.contracts(4);
                Due.steps(x, c, 0, SET, i, 0);
                Due.is("0 at first", x.cell(c, i), 0);
                x.call(0, c, 0, LEAST, 0);
                Due.is("the least int", x.cell(c, i), LEAST);
                x.call(0, c, 0, MOST, 0);
                for (int at = 0; at < 16; at++) {
                    int due = at == c * 4 + i ? MOST : 0;
                    Due.is("CELL " + at + " where " + (c * 4 + i) + " was set", x.cell(at / 4, at % 4), due);
                }
                Due.is("CELL 4", x.cell(c, 4), 0);
                Due.is("CELL -1", x.cell(c, -1), 0);
            }
        }
    }

    /** "and MEMBERS 0 .. 2 of up to 8 STEPS" */
    private static void upToEightSteps() {
        for (int c = 0; c <= 3; c++) {
            for (int m = 0; m <= 2; m++) {
                LedgerTests x = Made.contracts(4);
                Due.is("no STEPS", x.call(0, c, m, 5, 0), 1);
                Due.is("no STEPS, VALUE", x.told(0), 5);
                Due.is("no STEPS, STEPS", x.told(3), 0);
                for (int i = 1; i <= 8; i++) {
                    Due.is("STEP " + i, x.step(c, m, ADD, 0, 1), i);
                }
                Due.is("a ninth one", x.step(c, m, ADD, 0, 1), -2);
                x.call(0, c, m, 0, 0);
                Due.is("eight are done", x.told(0), 8);
                Due.is("eight are done", x.told(3), 8);
                for (int at = 0; at < 12; at++) {
                    int due = at == c * 3 + m ? 255 : 0;
                    Due.is("MEMBER " + at + " of all", x.covered(at / 3, at % 3), due);
                }
                Due.is("MEMBER 3", x.call(0, c, 3, 0, 0), -1);
                Due.is("MEMBER -1", x.call(0, c, -1, 0, 0), -1);
            }
        }
    }

    /** "FACES 0 .. 3 are bound to a MEMBER of a CONTRACT, or to none (at first)." */
    private static void facesAreBound() {
        for (int face = 0; face <= 3; face++) {
            LedgerTests x = Made.contracts(4);
            Due.steps(x, 0, 0, ASK, face, 0);
            Due.steps(x, 3, 2, ADD, 0, 40);
            Due.fails("to none at first, FACE " + face, x, 1, 5, 3);
            Due.is("bound", x.count(10), 0);
            for (int other = 0; other <= 3; other++) {
                x.bind(other, other == face ? 3 : 2, 2);
            }
            Due.is("bound", x.count(10), 4);
            Due.answers("bound, FACE " + face, x, 1, 41);
            Due.is("FACE -1", x.bind(-1, 3, 2), -1);
            Due.is("FACE 4", x.bind(4, 3, 2), -1);
            x.bind(face, -1, 0);
            Due.is("bound", x.count(10), 3);
            Due.fails("to none again, FACE " + face, x, 1, 5, 3);
        }
    }

    /** A CALL of it makes an EVENT of its VALUE. */
    private static LedgerTests withEvents(int n) {
        LedgerTests x = Made.of(EVENT, 0, 0);
        for (int i = 0; i < n; i++) {
            Due.is("an EVENT", x.call(0, 0, 0, 100 + i, 0), 1);
        }
        return x;
    }

    /** "EVENTS (a row of ints, 40 at most: more are lost)" */
    private static void fortyEvents() {
        LedgerTests x = withEvents(39);
        Due.is("39", x.count(1), 39);
        Due.is("not yet", x.event(39), 0);
        Due.answers("the 40th", x, LEAST, LEAST);
        Due.is("40", x.count(1), 40);
        Due.is("the 40th", x.event(39), LEAST);
        Due.answers("the 41st is lost without a THROW", x, MOST, MOST);
        Due.is("its STEP counts", x.told(3), 1);
        Due.is("40", x.count(1), 40);
        Due.is("the 40th stays", x.event(39), LEAST);
        Due.is("the 41st is lost", x.event(40), 0);
        for (int i = 0; i < 39; i++) {
            Due.is("EVENT " + i + " stays", x.event(i), 100 + i);
        }
    }

    /** The same sentence within a CALL that THROWS: the room that it took is there again. */
    private static void lostEventsInTry() {
        LedgerTests x = withEvents(38);
        Due.steps(x, 0, 1, TRY, 4, 0, EVENT, 0, 0, EVENT, 0, 0, EVENT, 0, 0, NEED, 0, 50, ADD, 0, 1, EVENT, 0, 0);
        Due.is("back to 38 and one more", x.call(0, 0, 1, 7, 0), 1);
        Due.is("39", x.count(1), 39);
        Due.is("that one", x.event(38), 11);
        Due.is("no other one", x.event(39), 0);
        Due.is("none held", x.call(0, 0, 1, 60, 0), 1);
        Due.is("40", x.count(1), 40);
        Due.is("the first of them", x.event(39), 60);
    }

    /** "COINS, CELLS, HEIGHT, EVENTS are THE STATE": the count of STEPS and what is COVERED are not. */
    private static void theState() {
        LedgerTests x = Made.of(SET, 0, 0, EVENT, 0, 0, UNLESS, 1, 5, NEED, 0, 50);
        x.account(0, 9);
        x.time(3);
        Due.is("THROWS", x.call(0, 0, 0, 6, 4), -20);
        Due.is("COINS", x.coins(0), 9);
        Due.is("COINS", x.coins(8), 0);
        Due.is("CELLS", x.cell(0, 0), 0);
        Due.is("HEIGHT", x.count(0), 3);
        Due.is("EVENTS", x.count(1), 0);
        Due.is("the count stays", x.count(3), 5);
        Due.is("COVERED stays", x.covered(0, 0), 15 | 1 << 18);
        Due.is("STEPS are told", x.told(3), 4);
    }

    /** CONTRACT 0 has coins and pays its VALUE to ACCOUNT 3, which has coins, too. */
    private static LedgerTests payer(int from, int to) {
        LedgerTests x = Made.of(PAY, 3, 0);
        x.account(8, from);
        x.account(3, to);
        return x;
    }

    private static void have(String what, LedgerTests x, int from, int to) {
        Due.is(what + ", from", x.coins(8), from);
        Due.is(what + ", to", x.coins(3), to);
    }

    /** "THROW 1 if n is below 0" */
    private static void payBelowZero() {
        LedgerTests x = payer(20, 5);
        Due.answers("0", x, 0, 0);
        have("0", x, 20, 5);
        Due.fails("-1", x, -1, 1, 1);
        have("-1", x, 20, 5);
        Due.fails("the least int", x, LEAST, 1, 1);
        have("the least int", x, 20, 5);
        x = payer(0, 0);
        Due.answers("0 of none", x, 0, 0);
        Due.fails("-1 of none", x, -1, 1, 1);
    }

    /** "or more than it has" */
    private static void payMoreThanItHas() {
        LedgerTests x = payer(20, 5);
        Due.fails("one more", x, 21, 1, 1);
        have("one more", x, 20, 5);
        Due.fails("the most int", x, MOST, 1, 1);
        Due.answers("all", x, 20, 20);
        have("all", x, 0, 25);
        Due.fails("one of none", x, 1, 1, 1);
        x = payer(COINS, 0);
        Due.answers("all that any may have", x, COINS, COINS);
        have("all that any may have", x, 0, COINS);
    }

    /** "2 if the other would have more than 1000000000" */
    private static void payMoreThanTheOtherMayHave() {
        LedgerTests x = payer(20, COINS - 7);
        Due.fails("one more", x, 8, 2, 2);
        have("one more", x, 20, COINS - 7);
        Due.answers("just as many", x, 7, 7);
        have("just as many", x, 13, COINS);
        Due.fails("one for a full one", x, 1, 2, 2);
        Due.answers("none for a full one", x, 0, 0);
        have("none for a full one", x, 13, COINS);
        x = payer(COINS, COINS);
        Due.fails("two full ones", x, COINS, 2, 2);
        have("two full ones", x, COINS, COINS);
        x = payer(COINS, 1);
        Due.fails("all, and one is there", x, COINS, 2, 2);
        Due.answers("all but one", x, COINS - 1, COINS - 1);
        have("all but one", x, 1, COINS);
    }

    /** "THROW 1 ..; 2 ..": where both are due, 1. */
    private static void payFirstOneThenTwo() {
        LedgerTests x = payer(20, COINS);
        Due.fails("more than it has, for a full one", x, 21, 1, 1);
        Due.fails("2 alone", x, 20, 2, 2);
        Due.fails("below 0, for a full one", x, -1, 1, 1);
    }

    /** "(from one to itself nothing goes)" */
    private static void payToItself() {
        LedgerTests x = Made.of(PAY, 8, 0);
        x.account(8, COINS);
        Due.answers("all of a full one", x, COINS, COINS);
        Due.is("stay", x.coins(8), COINS);
        x.account(8, 6);
        Due.answers("all", x, 6, 6);
        Due.is("stay", x.coins(8), 6);
        Due.answers("one", x, 1, 1);
        Due.is("stay", x.coins(8), 6);
        Due.fails("more than it has", x, 7, 1, 1);
        Due.fails("below 0", x, -1, 1, 1);
        Due.is("stay", x.coins(8), 6);
        LedgerTests y = Made.contracts(1);
        y.account(8, COINS);
        Due.is("a CALL by the CONTRACT's own", y.call(8, 0, 0, 4, COINS), 1);
        Due.is("stay", y.coins(8), COINS);
        y.account(8, 6);
        Due.is("all", y.call(8, 0, 0, 4, 6), 1);
        Due.is("more than it has", y.call(8, 0, 0, 4, 7), -11);
        Due.is("stay", y.coins(8), 6);
    }

    /** "n are PAID to the CONTRACT's ACCOUNT", ahead of the STEPS. */
    private static void callPays() {
        LedgerTests x = Made.of(PAY, 3, 0);
        x.account(2, 10);
        Due.is("one more than it has", x.call(2, 0, 0, 0, 11), -11);
        Due.is("no STEP began", x.told(3), 0);
        Due.is("the CALL counts", x.count(3), 1);
        Due.is("the most int", x.call(2, 0, 0, 0, MOST), -11);
        Due.is("no coins", x.call(2, 0, 0, 0, 0), 1);
        Due.is("stay", x.coins(2), 10);
        Due.is("all, and the STEP pays them", x.call(2, 0, 0, 10, 10), 1);
        Due.is("went on", x.coins(3), 10);
        Due.is("none stay", x.coins(8), 0);
        x.account(2, 10);
        x.account(8, COINS - 9);
        Due.is("one too many for it", x.call(2, 0, 0, 0, 10), -12);
        Due.is("no STEP began", x.told(3), 0);
        Due.is("stay", x.coins(2), 10);
        Due.is("to the brim", x.call(2, 0, 0, 0, 9), 1);
        Due.is("brim", x.coins(8), COINS);
    }

    /** "VALUE is the ARGUMENT; the STEPS are done; it answers VALUE." */
    private static void callAnswersValue() {
        LedgerTests x = Made.contracts(1);
        for (int argument : new int[] {LEAST, -1, 0, 1, MOST}) {
            Due.answers("no STEPS", x, argument, argument);
            Due.is("no STEPS", x.told(3), 0);
        }
    }

    /** "A CALL that ends by one has changed nothing of THE STATE." For each THROW that there is. */
    private static void aThrowHasChangedNothing() {
        int[][] throwing = {
            {1, PAY, 2, 0}, {2, PAY, 1, 0}, {5, ASK, 3, 0}, {5, ASK, 0, 0}, {6, PART, 3, 0},
            {10, NEED, 0, 50}, {19, NEED, 9, 50}, {7, ASK, 1, 0},
        };
        for (int[] last : throwing) {
            LedgerTests x = Made.of(SET, 0, 0, EVENT, 0, 0, ADD, 0, -2, PAY, 2, 0, ADD, 0, last[0] == 1 ? 90 : 0);
            Due.steps(x, 0, 0, last[1], last[2], last[3]);
            x.account(0, 9);
            x.account(1, COINS);
            x.bind(0, 0, 0);
            if (last[0] == 7) {
                manySteps(x);
            }
            Due.is("THROW " + last[0], x.call(0, 0, 0, 6, 9), -10 - last[0]);
            Due.is("its coins", x.coins(0), 9);
            Due.is("coins of the CONTRACT", x.coins(8), 0);
            Due.is("what it paid", x.coins(2), 0);
            Due.is("its CELL", x.cell(0, 0), 0);
            Due.is("the CELL of an ASK", x.cell(0, 1), 0);
            Due.is("its EVENTS", x.count(1), 0);
            Due.is("its EVENTS", x.event(0), 0);
        }
    }

    /** FACE 1 makes 96 STEPS, with EVENTS and changes of CELL 1. */
    private static void manySteps(LedgerTests x) {
        x.contract();
        x.bind(1, 0, 1);
        x.bind(2, 0, 2);
        x.bind(3, 1, 0);
        Due.steps(x, 0, 2, EVENT, 0, 0, SET, 1, 0, ASK, 3, 0);
        for (int i = 0; i < 8; i++) {
            Due.steps(x, 0, 1, ASK, 2, 0);
            Due.steps(x, 1, 0, ADD, 0, 1);
        }
    }

    /** "0 SET: CELL a becomes VALUE. 1 GET: VALUE becomes CELL a." */
    private static void setAndGet() {
        for (int a = 0; a <= 3; a++) {
            Due.answers("GET at first " + a, Made.of(GET, a, 0), 5, 0);
            Due.answers("SET " + a, Made.of(SET, a, 0), 5, 5);
            for (int other = 0; other <= 3; other++) {
                LedgerTests x = Made.of(SET, a, 0, ADD, 0, 1, GET, other, 0);
                Due.answers("SET " + a + ", GET " + other, x, LEAST, a == other ? LEAST : 0);
            }
        }
    }

    /** "4 NEED: THROW 10 and a, if VALUE is below b." */
    private static void need() {
        for (int b : new int[] {-1, 0, 1, 5, LEAST + 1, MOST}) {
            LedgerTests x = Made.of(NEED, 3, b);
            Due.answers("VALUE is b, " + b, x, b, b);
            Due.fails("one below b, " + b, x, b - 1, 13, 13);
            Due.answers("the most int, " + b, x, MOST, MOST);
            Due.fails("the least int, " + b, x, LEAST, 13, 13);
        }
        LedgerTests y = Made.of(NEED, 3, LEAST);
        Due.answers("none is below the least int", y, LEAST, LEAST);
        Due.answers("none is below the least int", y, MOST, MOST);
    }

    /** "THROW 10 and a": a is 0 .. 9. */
    private static void needNumbers() {
        for (int a = 0; a <= 9; a++) {
            Due.fails("NEED " + a, Made.of(NEED, a, 1), 0, 10 + a, 10 + a);
        }
        LedgerTests x = Made.contracts(1);
        Due.is("NEED -1", x.step(0, 0, NEED, -1, 1), -1);
        Due.is("NEED 10", x.step(0, 0, NEED, 10, 1), -1);
        Due.answers("no STEP came of it", x, 0, 0);
    }

    /** "5 PAY: VALUE coins are PAID to ACCOUNT a." */
    private static void pay() {
        for (int a : new int[] {0, 7, 8, 9, 11}) {
            LedgerTests x = Made.of(PAY, a, 0);
            x.account(8, 4);
            Due.answers("PAY to " + a, x, 4, 4);
            for (int other = 0; other <= 11; other++) {
                Due.is("PAY to " + a + ", coins of " + other, x.coins(other), other == a ? 4 : 0);
            }
        }
        LedgerTests y = Made.contracts(1);
        Due.is("PAY to -1", y.step(0, 0, PAY, -1, 0), -1);
        Due.is("PAY to 12", y.step(0, 0, PAY, 12, 0), -1);
    }

    /** "7 UNLESS: if VALUE is below b, the next a STEPS are passed over." */
    private static void unless() {
        for (int b : new int[] {0, 5, LEAST + 1, MOST}) {
            LedgerTests x = Made.of(UNLESS, 1, b, SET, 0, 0, SET, 1, 0);
            x.call(0, 0, 0, b, 0);
            Due.is("VALUE is b, " + b, x.told(3), 3);
            x.call(0, 0, 0, b - 1, 0);
            Due.is("one below b, " + b, x.told(3), 2);
        }
        LedgerTests y = Made.of(UNLESS, 1, LEAST, SET, 0, 0);
        y.call(0, 0, 0, LEAST, 0);
        Due.is("none is below the least int", y.told(3), 2);
        for (int a = 1; a <= 7; a++) {
            LedgerTests z = Made.of(UNLESS, a, 1);
            for (int i = 1; i <= 7; i++) {
                Due.steps(z, 0, 0, EVENT, 0, 0);
            }
            z.call(0, 0, 0, 0, 0);
            Due.is("passes over " + a, z.count(1), 7 - a);
            Due.is("and comes to those behind", z.covered(0, 0), 1 | 1 << 8 | 255 & ~((2 << a) - 1));
        }
    }

    /** "8 ASK: VALUE becomes what FACE a answers: .. with VALUE and no coins" */
    private static void ask() {
        for (int face = 0; face <= 3; face++) {
            for (int argument : new int[] {LEAST, 0, MOST}) {
                LedgerTests x = Made.of(ASK, face, 0);
                x.bind(face, 0, 1);
                Due.steps(x, 0, 1, SET, 0, 0);
                Due.answers("ASK " + face, x, argument, argument);
                Due.is("with VALUE", x.cell(0, 0), argument);
            }
        }
        LedgerTests y = Made.contracts(1);
        Due.is("ASK -1", y.step(0, 0, ASK, -1, 0), -1);
        Due.is("ASK 4", y.step(0, 0, ASK, 4, 0), -1);
    }

    /** "(THROW 3 if that is none ..)", which "comes as 5, with that as its CAUSE". */
    private static void askNone() {
        LedgerTests x = Made.of(SET, 0, 0, ASK, 2, 0, SET, 1, 0);
        Due.fails("none", x, 7, 5, 3);
        Due.is("the ASK is the last STEP", x.told(3), 2);
        Due.is("no CALL was made", x.count(3), 3);
        x.bind(2, 0, 2);
        Due.answers("a MEMBER without STEPS", x, 7, 7);
        Due.is("a CALL was made", x.count(3), 3 + 5);
    }

    /** Each CONTRACT asks the next one; FACE c is bound to CONTRACT c. */
    private static LedgerTests chain(int length) {
        LedgerTests x = Made.contracts(4);
        for (int c = 0; c < 4; c++) {
            x.bind(c, c, 0);
        }
        for (int c = 0; c < length - 1; c++) {
            Due.steps(x, c, 0, SET, 0, 0, ASK, c + 1, 0);
        }
        return x;
    }

    /** "4 if 4 CALLS are at work" */
    private static void askFourAtWork() {
        LedgerTests x = chain(4);
        Due.steps(x, 3, 0, SET, 0, 0);
        Due.answers("the fourth CALL", x, 7, 7);
        Due.is("it was done", x.cell(3, 0), 7);
        Due.is("STEPS", x.told(3), 7);
        Due.is("STEPS and CALLS", x.count(3), 7 + 4);
        Due.steps(x, 3, 0, ASK, 0, 0);
        Due.fails("a fifth CALL", x, 8, 5, 4);
        Due.is("nothing of it", x.cell(0, 0), 7);
        Due.is("STEPS", x.told(3), 8);
        Due.is("it is no CALL", x.count(3), 11 + 8 + 4);
        // Those that have ended are at work no more.
        LedgerTests y = Made.contracts(1);
        y.bind(0, 0, 1);
        for (int i = 0; i < 8; i++) {
            Due.steps(y, 0, 0, ASK, 0, 0);
        }
        Due.answers("eight, one behind the other", y, 7, 7);
        Due.is("CALLS", y.count(3), 9 + 8);
        // Nor are those that have ended by a THROW.
        LedgerTests z = Made.contracts(1);
        z.bind(0, 0, 1);
        Due.steps(z, 0, 1, NEED, 0, 50);
        for (int i = 0; i < 4; i++) {
            Due.steps(z, 0, 0, TRY, 1, 0, ASK, 0, 0);
        }
        Due.answers("four that THROW", z, 7, 5);
        Due.is("CALLS", z.count(3), 5 + 8 + 4);
    }

    /** "(THROW 3 if that is none; 4 ..": where both are due, 3. */
    private static void noneAheadOfFour() {
        LedgerTests x = chain(4);
        Due.steps(x, 3, 0, ASK, 0, 0);
        Due.fails("bound", x, 8, 5, 4);
        x.bind(0, -1, 0);
        Due.fails("bound to none", x, 8, 5, 3);
    }

    /** "a THROW of that (3, 4, too) comes as 5, with that as its CAUSE": told is the last of them. */
    private static void causes() {
        for (int length = 1; length <= 4; length++) {
            LedgerTests x = chain(length);
            Due.steps(x, length - 1, 0, NEED, 9, 50);
            int number = length == 1 ? 19 : 5;
            Due.fails("a chain of " + length, x, 7, number, 19);
            for (int c = 0; c < 4; c++) {
                Due.is("nothing changed in " + c, x.cell(c, 0), 0);
            }
        }
        LedgerTests y = chain(2);
        Due.steps(y, 1, 0, PAY, 0, 0);
        Due.fails("1 is the CAUSE", y, 7, 5, 1);
        LedgerTests z = chain(2);
        Due.steps(z, 1, 0, PART, 0, 0);
        Due.fails("6 is the CAUSE", z, 7, 5, 6);
    }

    /** "by the CONTRACT's ACCOUNT, with VALUE and no coins" */
    private static void askByTheContract() {
        LedgerTests x = chain(2);
        x.account(0, 5);
        x.account(9, COINS);
        Due.is("no coins go to a full one", x.call(0, 0, 0, 7, 5), 1);
        Due.is("coins", x.coins(8), 5);
        Due.is("coins", x.coins(9), COINS);
    }

    /** "9 TRY: a THROW in the next a STEPS is held" */
    private static void tryHolds() {
        for (int a = 1; a <= 7; a++) {
            for (int at = 1; at <= 7; at++) {
                LedgerTests x = Made.of(TRY, a, 0);
                for (int i = 1; i <= 7; i++) {
                    Due.steps(x, 0, 0, i == at ? NEED : EVENT, 4, 50);
                }
                if (at <= a) {
                    Due.answers("a THROW in " + at + " of " + a, x, 7, 14);
                    Due.is("STEPS", x.told(3), 1 + at + 7 - a);
                    Due.is("EVENTS behind", x.count(1), 7 - a);
                    Due.is("VALUE is its number", x.event(0), a == 7 ? 0 : 14);
                } else {
                    Due.fails("a THROW in " + at + " behind " + a, x, 7, 14, 14);
                    Due.is("STEPS", x.told(3), 1 + at);
                    Due.is("EVENTS", x.count(1), 0);
                }
            }
        }
        Due.answers("no THROW", Made.of(TRY, 1, 0, ADD, 0, 1, ADD, 0, 1), 7, 9);
    }

    /** "VALUE is its number": of each THROW but 7. */
    private static void tryHoldsEach() {
        int[][] throwing = {{1, PAY, 2, 0}, {2, PAY, 1, 0}, {5, ASK, 3, 0}, {6, PART, 3, 0}, {10, NEED, 0, 50}, {19, NEED, 9, 50}};
        for (int[] step : throwing) {
            LedgerTests x = Made.of(TRY, 1, 0, step[1], step[2], step[3], SET, 0, 0);
            x.account(8, step[0] == 2 ? 9 : 0);
            x.account(1, COINS);
            Due.answers("THROW " + step[0] + " is held", x, 9, step[0]);
            Due.is("behind it", x.cell(0, 0), step[0]);
        }
    }

    /** "THE STATE is as ahead of them" */
    private static void tryStateAsAhead() {
        LedgerTests x = Made.contracts(2);
        x.account(8, 9);
        x.account(0, 3);
        x.bind(0, 1, 0);
        Due.steps(x, 1, 0, SET, 3, 0, EVENT, 0, 0);
        Due.steps(x, 0, 0, SET, 0, 0, EVENT, 0, 0, TRY, 4, 0, SET, 0, 0, PAY, 2, 0, ASK, 0, 0, NEED, 0, 50, SET, 1, 0);
        Due.is("held", x.call(0, 0, 0, 7, 3), 1);
        Due.is("ahead of TRY", x.cell(0, 0), 7);
        Due.is("the coins of the CALL", x.coins(8), 12);
        Due.is("what was paid", x.coins(2), 0);
        Due.is("the CELL of an ASK", x.cell(1, 3), 0);
        Due.is("EVENTS", x.count(1), 1);
        Due.is("behind TRY", x.cell(0, 1), 10);
    }

    /** "it goes on behind them" */
    private static void tryGoesOnBehind() {
        Due.answers("behind those not come to", Made.of(TRY, 3, 0, NEED, 0, 50, ADD, 0, 100, ADD, 0, 100, ADD, 0, 1), 7, 11);
        Due.answers("none behind", Made.of(TRY, 3, 0, NEED, 0, 50, ADD, 0, 100, ADD, 0, 100), 7, 10);
        Due.answers("none at all", Made.of(TRY, 7, 0), 7, 7);
        LedgerTests x = Made.contracts(1);
        Due.is("TRY 0", x.step(0, 0, TRY, 0, 0), -1);
        Due.is("TRY 8", x.step(0, 0, TRY, 8, 0), -1);
        Due.is("UNLESS 0", x.step(0, 0, UNLESS, 0, 0), -1);
        Due.is("UNLESS 8", x.step(0, 0, UNLESS, 8, 0), -1);
    }

    /** As many CALLS and TRIES at work at once as there can be: 3 times 7 TRIES, then 8. */
    private static void mostTries() {
        LedgerTests x = Made.contracts(2);
        for (int i = 0; i < 7; i++) {
            Due.steps(x, 0, 0, TRY, 7, 0);
            Due.steps(x, 0, 1, TRY, 7, 0);
            Due.steps(x, 0, 2, TRY, 7, 0);
            Due.steps(x, 1, 0, TRY, 7, 0);
        }
        x.bind(0, 0, 1);
        x.bind(1, 0, 2);
        x.bind(2, 1, 0);
        Due.steps(x, 0, 0, ASK, 0, 0);
        Due.steps(x, 0, 1, ASK, 1, 0);
        Due.steps(x, 0, 2, ASK, 2, 0);
        Due.steps(x, 1, 0, TRY, 7, 0);
        Due.answers("all at work", x, 9, 9);
        Due.is("STEPS", x.told(3), 32);
        Due.is("STEPS and CALLS", x.count(3), 36);
    }

    /** "10 AGE: VALUE becomes HEIGHT.", which is 0 at first. */
    private static void age() {
        LedgerTests x = Made.of(AGE, 0, 0);
        Due.answers("0 at first", x, 9, 0);
        x.time(1000);
        Due.answers("1000", x, 9, 1000);
        x.time(0);
        Due.answers("no more", x, 9, 1000);
        x.time(1001);
        Due.answers("refused", x, 9, 1000);
    }

    /** "11 PART: VALUE by CELL a (cut; THROW 6 by 0)." */
    private static void part() {
        int[][] rows = {
            {7, 2, 3}, {-7, 2, -3}, {7, -2, -3}, {-7, -2, 3}, {1, 2, 0}, {-1, 2, 0}, {0, 5, 0},
            {7, 1, 7}, {7, -1, -7}, {MOST, 1, MOST}, {LEAST, 1, LEAST}, {LEAST, -1, LEAST},
            {MOST, -1, -MOST}, {LEAST, LEAST, 1}, {MOST, LEAST, 0}, {LEAST, MOST, -1},
        };
        for (int[] row : rows) {
            LedgerTests x = Made.of(PART, 3, 0);
            Due.steps(x, 0, 1, SET, 3, 0);
            x.call(0, 0, 1, row[1], 0);
            Due.answers(row[0] + " by " + row[1], x, row[0], row[2]);
            x.call(0, 0, 1, 0, 0);
            Due.fails(row[0] + " by 0", x, row[0], 6, 6);
        }
        for (int a = 0; a <= 3; a++) {
            LedgerTests y = Made.of(SET, a, 0, ADD, 0, 5, PART, a, 0);
            Due.answers("CELL " + a, y, 5, 2);
            Due.fails("CELL " + a + " is 0", y, 0, 6, 6);
        }
    }

    /** ""The next a" are those that there are" */
    private static void nextAreThoseThatThereAre() {
        Due.answers("UNLESS, just as many", Made.of(UNLESS, 2, 5, ADD, 0, 1, ADD, 0, 1), 4, 4);
        Due.answers("UNLESS, one fewer", Made.of(UNLESS, 3, 5, ADD, 0, 1, ADD, 0, 1), 4, 4);
        Due.answers("UNLESS, none", Made.of(UNLESS, 7, 5), 4, 4);
        Due.answers("TRY, just as many", Made.of(TRY, 2, 0, ADD, 0, 1, NEED, 0, 50), 4, 10);
        Due.answers("TRY, one fewer", Made.of(TRY, 3, 0, ADD, 0, 1, NEED, 0, 50), 4, 10);
        Due.answers("TRY, none", Made.of(TRY, 7, 0), 4, 4);
        // What is passed over ends with its MEMBER: the one that asked goes on with its own next STEP.
        LedgerTests x = Made.of(ASK, 0, 0, ADD, 0, 1);
        x.bind(0, 0, 1);
        Due.steps(x, 0, 1, UNLESS, 7, 5);
        Due.answers("UNLESS of the one asked", x, 4, 5);
        LedgerTests y = Made.of(ASK, 0, 0, NEED, 0, 50);
        y.bind(0, 0, 1);
        Due.steps(y, 0, 1, TRY, 7, 0);
        Due.fails("TRY of the one asked", y, 4, 10, 10);
    }

    /** "within those of a TRY around" */
    private static void nextWithinTry() {
        Due.answers("UNLESS to the end of TRY", Made.of(TRY, 2, 0, UNLESS, 1, 5, ADD, 0, 10, ADD, 0, 1), 4, 5);
        Due.answers("UNLESS over the end of TRY", Made.of(TRY, 2, 0, UNLESS, 2, 5, ADD, 0, 10, ADD, 0, 1), 4, 5);
        Due.answers("UNLESS at the end of TRY", Made.of(TRY, 1, 0, UNLESS, 7, 5, ADD, 0, 10, ADD, 0, 1), 4, 15);
        Due.answers("TRY to the end of TRY", Made.of(TRY, 2, 0, TRY, 1, 0, NEED, 0, 50, ADD, 0, 1), 4, 11);
        Due.answers("TRY over the end of TRY", Made.of(TRY, 2, 0, TRY, 2, 0, NEED, 0, 50, ADD, 0, 1), 4, 11);
        Due.fails("TRY over the end of TRY holds none behind it", Made.of(TRY, 1, 0, TRY, 7, 0, NEED, 3, 50), 4, 13, 13);
        Due.fails("nor where it is not the first of them", Made.of(TRY, 2, 0, ADD, 0, 1, TRY, 7, 0, NEED, 3, 50), 4, 13, 13);
        Due.answers("a THROW behind the inner one", Made.of(TRY, 3, 0, TRY, 1, 0, ADD, 0, 1, NEED, 3, 50, ADD, 0, 1), 4, 14);
        Due.answers("UNLESS in TRY in TRY", Made.of(TRY, 4, 0, TRY, 2, 0, UNLESS, 7, 5, ADD, 0, 10, ADD, 0, 1, ADD, 0, 2), 4, 7);
        // A TRY that is passed over is around nothing.
        Due.answers("a TRY passed over", Made.of(UNLESS, 1, 5, TRY, 1, 0, UNLESS, 2, 5, ADD, 0, 10, ADD, 0, 10, ADD, 0, 1), 4, 5);
    }

    /** "Sums wrap." */
    private static void sumsWrap() {
        Due.answers("ADD to the most", Made.of(ADD, 0, 1), MOST - 1, MOST);
        Due.answers("ADD over the most", Made.of(ADD, 0, 1), MOST, LEAST);
        Due.answers("ADD to the least", Made.of(ADD, 0, -1), LEAST + 1, LEAST);
        Due.answers("ADD below the least", Made.of(ADD, 0, -1), LEAST, MOST);
        Due.answers("ADD of two", Made.of(ADD, 0, MOST), MOST, -2);
        Due.answers("ADD of the least", Made.of(ADD, 0, LEAST), LEAST, 0);
        Due.answers("ADD of none", Made.of(ADD, 0, 0), MOST, MOST);
        int[][] less = {{LEAST + 1, 1, LEAST}, {LEAST, 1, MOST}, {MOST - 1, -1, MOST}, {MOST, -1, LEAST}, {0, LEAST, LEAST}, {-1, LEAST, MOST}};
        for (int[] row : less) {
            LedgerTests x = Made.of(LESS, 0, 0);
            Due.steps(x, 0, 1, SET, 0, 0);
            x.call(0, 0, 1, row[1], 0);
            Due.answers(row[0] + " LESS " + row[1], x, row[0], row[2]);
        }
        for (int a = 0; a <= 3; a++) {
            Due.answers("LESS of CELL " + a, Made.of(SET, a, 0, ADD, 0, 5, LESS, a, 0), 9, 5);
        }
    }

    /** "Each STEP that begins counts" */
    private static void stepsCount() {
        LedgerTests x = Made.of(UNLESS, 2, 5, TRY, 1, 0, NEED, 0, 9, ADD, 0, 1);
        Due.answers("passed over", x, 4, 5);
        Due.is("those passed over do not count", x.told(3), 2);
        Due.answers("held", x, 5, 11);
        Due.is("one that THROWS counts", x.told(3), 4);
        Due.is("in all, with CALLS", x.count(3), 3 + 5);
        LedgerTests y = Made.of(ADD, 0, 1, NEED, 0, 9, ADD, 0, 1);
        Due.fails("THROWS", y, 1, 10, 10);
        Due.is("those behind a THROW do not count", y.told(3), 2);
        Due.is("in all", y.count(3), 3);
    }

    /** "and is COVERED (TRY and UNLESS themselves, too" */
    private static void stepsAreCovered() {
        for (int at = 0; at <= 7; at++) {
            LedgerTests x = Made.contracts(1);
            for (int i = 0; i <= 7; i++) {
                Due.steps(x, 0, 2, i == at ? NEED : TRY, i == at ? 0 : 7, 50);
            }
            x.call(0, 0, 2, 1, 0);
            Due.is("TRIES up to a NEED at " + at, x.covered(0, 2), (2 << at) - 1);
        }
        LedgerTests y = Made.of(NEED, 0, 5, ADD, 0, 1);
        y.call(0, 0, 0, 4, 0);
        Due.is("one that THROWS", y.covered(0, 0), 1);
        y.call(0, 0, 0, 5, 0);
        Due.is("the one behind", y.covered(0, 0), 3);
        y.call(0, 0, 0, 4, 0);
        Due.is("once for all", y.covered(0, 0), 3);
    }

    /** "of UNLESS also whether it passed over" */
    private static void unlessIsCovered() {
        for (int at = 0; at <= 7; at++) {
            LedgerTests x = Made.contracts(1);
            for (int i = 0; i < at; i++) {
                Due.steps(x, 0, 1, ADD, 0, 0);
            }
            Due.steps(x, 0, 1, UNLESS, 1, 5);
            int ahead = (2 << at) - 1;
            x.call(0, 0, 1, 4, 0);
            Due.is("passed over at " + at, x.covered(0, 1), ahead | 1 << 8 + at);
            LedgerTests y = Made.contracts(1);
            for (int i = 0; i < at; i++) {
                Due.steps(y, 0, 1, ADD, 0, 0);
            }
            Due.steps(y, 0, 1, UNLESS, 1, 5);
            y.call(0, 0, 1, 5, 0);
            Due.is("did not at " + at, y.covered(0, 1), ahead | 1 << 16 + at);
            y.call(0, 0, 1, 4, 0);
            Due.is("both at " + at, y.covered(0, 1), ahead | 1 << 8 + at | 1 << 16 + at);
        }
    }
}
