import java.util.function.Consumer;

/**
 * The boundaries that the document names in its terms, part 2 (TESTS, RUNS and their LINES),
 * sentence by sentence: the last LINE that is AS TOLD and the first one that is not.
 */
public final class LinesBoundsTest {
    private static final int SET = 0, ADD = 2, NEED = 4, PAY = 5, EVENT = 6, ASK = 8, TRY = 9, AGE = 10;
    private static final int COINS = 1000000000;
    private static final int LEAST = Integer.MIN_VALUE, MOST = Integer.MAX_VALUE;
    private static final String[] WORDS = {
        "by", "call", "gives", "throws", "steps", "coins", "cell", "event", "sum", "time", "fork",
        "back", "face", "fails",
    };

    private LinesBoundsTest() {
    }

    public static void main(String[] args) {
        upToSixteenLines();
        linesAreKept();
        theStateIsSoAgain();
        doublesAndForksAreOfOneRun();
        firstThatIsNotAsTold();
        nothingBehindTheFailingLine();
        byAccounts();
        byCoins();
        byAtFirst();
        callMembers();
        callThatThrows();
        gives();
        givesOfTheLastCall();
        throwsNumbers();
        throwsCauses();
        steps();
        coins();
        cells();
        events();
        eventsWithForks();
        fullEvents();
        sums();
        time();
        forks();
        threeForks();
        backIsOfThisRun();
        faces();
        fails();
        Due.end();
    }

    /**
     * CONTRACT 0: MEMBER 0 NEEDS 5, SETS CELL 1, adds 1 and makes an EVENT; MEMBER 1 pays its VALUE
     * to ACCOUNT 3; MEMBER 2 ASKS FACE 2. CONTRACT 1: MEMBER 0 answers HEIGHT, MEMBER 1 its ARGUMENT.
     */
    private static final Consumer<LedgerTests> LEDGER = x -> {
        x.contract();
        x.contract();
        x.account(0, 100);
        x.account(4, 40);
        Due.steps(x, 0, 0, NEED, 2, 5, SET, 1, 0, ADD, 0, 1, EVENT, 0, 0);
        Due.steps(x, 0, 1, PAY, 3, 0);
        Due.steps(x, 0, 2, ASK, 2, 0, ADD, 0, 1);
        Due.steps(x, 1, 0, AGE, 0, 0);
    };

    private static LedgerTests ledger() {
        return Made.by(LEDGER);
    }

    /** The LINE, which is the last one of these, is AS TOLD. */
    private static void told(String... lines) {
        Due.runs(String.join(", ", lines), ledger(), -1, lines);
    }

    /** The last one of these LINES is the first one that is not AS TOLD. */
    private static void notTold(String... lines) {
        Due.runs(String.join(", ", lines), ledger(), lines.length - 1, lines);
    }

    /** "TESTS 0 .. 5 have up to 16 LINES" */
    private static void upToSixteenLines() {
        for (int test = 0; test <= 5; test++) {
            LedgerTests x = new LedgerTests();
            Due.is("no LINES", x.count(4 + test), 0);
            Due.is("no LINES", x.run(test), -1);
            for (int i = 1; i <= 15; i++) {
                Due.is("LINE " + i, x.line(test, Due.word("sum"), 0, i, -i), i);
            }
            Due.is("the 16th", x.line(test, Due.word("sum"), 9, LEAST, MOST), 16);
            Due.is("the 17th", x.line(test, Due.word("sum"), 7, 7, 7), -2);
            Due.is("16", x.count(4 + test), 16);
            Due.is("the 16th is run, too", x.run(test), 15);
            Due.is("a", x.lineOf(test, 15, 1), 9);
            Due.is("b", x.lineOf(test, 15, 2), LEAST);
            Due.is("c", x.lineOf(test, 15, 3), MOST);
            for (int other = 0; other <= 5; other++) {
                Due.is("no LINE of another", x.count(4 + other), other == test ? 16 : 0);
            }
        }
        LedgerTests y = new LedgerTests();
        Due.is("TEST -1", y.line(-1, Due.word("sum"), 0, 0, 0), -1);
        Due.is("TEST 6", y.line(6, Due.word("sum"), 0, 0, 0), -1);
        Due.is("run -1", y.run(-1), -2);
        Due.is("run 6", y.run(6), -2);
    }

    /** "a WORD, a, b, c": whatever the numbers are, the LINE is taken; a RUN looks at them. */
    private static void linesAreKept() {
        for (int word = 0; word < WORDS.length; word++) {
            LedgerTests x = ledger();
            Due.is("line " + WORDS[word], x.line(0, Due.word(WORDS[word]), LEAST, MOST, LEAST), 1);
            Due.is("word", x.lineOf(0, 0, 0), word);
            Due.is("a", x.lineOf(0, 0, 1), LEAST);
            Due.is("b", x.lineOf(0, 0, 2), MOST);
            Due.is("c", x.lineOf(0, 0, 3), LEAST);
            Due.is("not AS TOLD, " + WORDS[word], x.run(0), 0);
            Due.is("line " + WORDS[word], x.line(1, Due.word(WORDS[word]), MOST, LEAST, MOST), 1);
            Due.is("not AS TOLD, " + WORDS[word], x.run(1), 0);
        }
    }

    /** "A RUN of a TEST begins with THE STATE as it is, and that is so again behind it." */
    private static void theStateIsSoAgain() {
        Consumer<LedgerTests> ahead = LEDGER.andThen(x -> {
            x.time(2);
            x.call(4, 0, 0, 20, 1);
            x.bind(2, 0, 0);
            Due.lines(x, 5, "call 1 0 0", "gives 2", "cell 0 1 20", "coins 8 1", "sum 140");
        });
        String[] changing = {"by 0 30", "time 9", "call 0 0 30", "call 0 1 10", "fork 2", "face 2 9", "fails 1 5"};
        for (String last : new String[] {"coins 3 10", "coins 3 11", "back 2", "back 1", "call 0 3 0", "call 0 0 4"}) {
            LedgerTests x = Made.by(ahead);
            Due.is("as it is", x.run(5), -1);
            Due.lines(x, 0, changing);
            Due.lines(x, 0, last);
            boolean passes = last.equals("coins 3 10") || last.equals("back 2");
            Due.is("a RUN up to " + last, x.run(0), passes ? -1 : changing.length);
            Due.is("COINS", x.coins(0), 100);
            Due.is("COINS", x.coins(3), 0);
            Due.is("COINS", x.coins(8), 1);
            Due.is("CELLS", x.cell(0, 1), 20);
            Due.is("HEIGHT", x.count(0), 2);
            Due.is("EVENTS", x.count(1), 1);
            Due.is("EVENTS", x.event(0), 21);
            Due.is("EVENTS", x.event(1), 0);
            Due.is("FACES", x.count(10), 1);
            Due.is("so again", x.run(5), -1);
        }
    }

    /** "in this RUN": behind it, FACES are as they are bound; "of this RUN": there is no FORK yet. */
    private static void doublesAndForksAreOfOneRun() {
        LedgerTests x = ledger();
        Due.lines(x, 0, "face 2 9", "fork 0", "call 0 2 0", "gives 10", "sum 0");
        Due.lines(x, 1, "fails 2 3", "fork 1", "call 0 2 0", "throws 5 23");
        Due.lines(x, 2, "call 0 2 0", "throws 5 3", "back 0");
        Due.is("a RUN that FAILS", x.run(0), 4);
        Due.is("another one", x.run(2), 2);
        Due.is("call()", x.call(0, 0, 2, 0, 0), -15);
        Due.is("none", x.told(2), 3);
        Due.is("a RUN that PASSES", x.run(1), -1);
        Due.is("another one", x.run(2), 2);
        Due.is("call()", x.call(0, 0, 2, 0, 0), -15);
        Due.is("none", x.told(2), 3);
    }

    /** "the first that is not AS TOLD is where it FAILS; without one it PASSES" */
    private static void firstThatIsNotAsTold() {
        for (int first = 0; first <= 16; first++) {
            LedgerTests x = ledger();
            for (int i = 0; i < 16; i++) {
                Due.lines(x, 3, i < first ? "sum 140" : "sum 141");
            }
            Due.is("the first one is " + first, x.run(3), first == 16 ? -1 : first);
        }
        Due.is("no LINES", new LedgerTests().run(0), -1);
    }

    /** A RUN ends where it FAILS: no CALL behind that LINE. */
    private static void nothingBehindTheFailingLine() {
        LedgerTests x = ledger();
        Due.runs("FAILS", x, 1, "call 1 1 5", "sum 0", "call 0 0 9");
        Due.is("one CALL", x.count(3), 1);
        Due.is("told of it", x.told(0), 5);
        Due.is("not COVERED", x.covered(0, 0), 0);
    }

    /** "by: .. by ACCOUNT a" and "(A number that is no ACCOUNT .. is not AS TOLD.)" */
    private static void byAccounts() {
        told("by 0 0");
        told("by 11 0");
        notTold("by -1 0");
        notTold("by 12 0");
        notTold("by " + LEAST + " 0");
        notTold("by " + MOST + " 0");
        for (int a = 0; a <= 11; a++) {
            LedgerTests x = ledger();
            x.account(a, 50);
            Due.runs("by " + a, x, -1, "by " + a + " 50", "call 1 1 0", "coins 9 50", "coins " + a + (a == 9 ? " 50" : " 0"));
        }
    }

    /** "with b coins": as for call(), below 0 is not as told, and more than it has is THROW 1. */
    private static void byCoins() {
        told("by 4 0", "call 1 1 7", "coins 4 40");
        notTold("by 4 -1");
        notTold("by 4 " + LEAST);
        told("by 4 40", "call 1 1 7", "coins 4 0", "coins 9 40");
        told("by 4 41", "call 1 1 7", "throws 1 1", "coins 4 40");
        told("by 4 " + COINS, "call 1 1 7", "throws 1 1");
        told("by 4 " + (COINS + 1), "call 1 1 7", "throws 1 1");
        told("by 4 " + MOST, "call 1 1 7", "throws 1 1");
        LedgerTests x = ledger();
        x.account(9, COINS - 5);
        Due.runs("to the brim", x, -1, "by 4 5", "call 1 1 7", "coins 9 " + COINS);
        Due.runs("over the brim", x, -1, "by 4 6", "call 1 1 7", "throws 2 2");
    }

    /** "the CALLS of this RUN behind it .. (0, 0 at first)" */
    private static void byAtFirst() {
        told("call 1 1 7", "coins 0 100", "coins 9 0");
        LedgerTests x = ledger();
        Due.runs("by", x, -1, "by 4 7", "call 1 1 7", "coins 4 33", "call 1 1 7", "coins 4 26");
        Due.runs("0 again in the next RUN", x, -1, "call 1 1 7", "coins 0 100", "coins 4 40", "coins 9 0");
        Due.runs("not those ahead of it", x, -1, "call 1 1 7", "by 4 7", "coins 4 40");
    }

    /** "call: a CALL of MEMBER b of CONTRACT a, the ARGUMENT c" */
    private static void callMembers() {
        told("call 1 2 5", "gives 5");
        notTold("call 2 0 5");
        notTold("call -1 0 5");
        notTold("call 0 3 5");
        notTold("call 0 -1 5");
        told("call 1 1 " + LEAST, "gives " + LEAST);
        told("call 1 1 " + MOST, "gives " + MOST);
        LedgerTests x = ledger();
        Due.runs("no MEMBER is not a THROW", x, 0, "call 0 3 5", "throws 0 0");
        Due.is("no CALL", x.count(3), 0);
        x.contract();
        Due.runs("a CONTRACT more", x, -1, "call 2 2 5", "gives 5");
        x.contract();
        Due.runs("the last CONTRACT", x, -1, "call 3 2 5", "gives 5");
        Due.runs("no more", x, 0, "call 4 0 5");
    }

    /** "if it THROWS, the next LINE must be a throws (else call is not AS TOLD)" */
    private static void callThatThrows() {
        told("call 0 0 5");
        notTold("call 0 0 4");
        told("call 0 0 4", "throws 12 12");
        notTold("call 0 0 4", "throws 12 11");
        LedgerTests x = ledger();
        for (String word : WORDS) {
            boolean isThrows = word.equals("throws");
            Due.runs("a " + word + " next", x, isThrows ? -1 : 0, "call 0 0 4", word + " 12 12", "throws 12 12");
        }
        Due.lines(x, 1, "sum 140");
        for (int i = 0; i < 14; i++) {
            Due.lines(x, 0, "sum 140");
            Due.lines(x, 1, "sum 140");
        }
        Due.lines(x, 0, "call 0 0 4", "throws 12 12");
        Due.is("throws is the 16th", x.run(0), -1);
        Due.lines(x, 1, "call 0 0 4");
        Due.lines(x, 2, "throws 12 12");
        Due.is("the 16th is a call; the next TEST's throws is none of it", x.run(1), 15);
        Due.runs("two that THROW", x, 0, "call 0 0 4", "call 0 0 4", "throws 12 12");
    }

    /** "gives: the last CALL of this RUN answered a" */
    private static void gives() {
        told("call 0 0 5", "gives 6");
        notTold("call 0 0 5", "gives 5");
        notTold("call 0 0 5", "gives 7");
        notTold("gives 0");
        told("call 1 1 0", "gives 0");
        LedgerTests x = ledger();
        x.call(0, 0, 0, 5, 0);
        Due.runs("no CALL of this RUN", x, 0, "gives 6");
        Due.is("told of it", x.told(0), 6);
        Due.runs("a RUN ahead", x, -1, "call 1 1 5");
        Due.runs("no CALL of this RUN", x, 0, "gives 5");
    }

    /** "the last CALL": not one ahead of it, and one that THREW answered nothing. */
    private static void givesOfTheLastCall() {
        told("call 1 1 5", "call 1 1 6", "gives 6");
        notTold("call 1 1 5", "call 1 1 6", "gives 5");
        notTold("call 1 1 5", "call 0 0 4", "throws 12 12", "gives 5");
        notTold("call 1 1 5", "call 0 0 4", "throws 12 12", "gives 0");
        told("call 0 0 4", "throws 12 12", "call 1 1 5", "gives 5");
    }

    /** "throws: it THREW a" */
    private static void throwsNumbers() {
        notTold("call 0 0 4", "throws 11 12");
        notTold("call 0 0 4", "throws 13 12");
        notTold("throws 0 0");
        notTold("call 1 1 0", "throws 0 0");
        notTold("call 0 0 4", "throws 12 12", "call 1 1 0", "throws 12 12");
        LedgerTests x = ledger();
        x.call(0, 0, 0, 4, 0);
        Due.runs("no CALL of this RUN", x, 0, "throws 12 12");
        for (int a = 0; a <= 9; a += 9) {
            LedgerTests y = Made.of(NEED, a, 1);
            Due.runs("NEED " + a, y, -1, "call 0 0 0", "throws " + (10 + a) + " " + (10 + a));
        }
    }

    /** "and the last of its CAUSES (itself without one) is b" */
    private static void throwsCauses() {
        told("call 0 0 4", "throws 12 12");
        notTold("call 0 0 4", "throws 12 0");
        told("call 0 2 4", "throws 5 3");
        notTold("call 0 2 4", "throws 5 5");
        notTold("call 0 2 4", "throws 3 3");
        LedgerTests x = Made.contracts(3);
        x.bind(1, 1, 0);
        x.bind(2, 2, 0);
        Due.steps(x, 0, 0, ASK, 1, 0);
        Due.steps(x, 1, 0, ASK, 2, 0);
        Due.steps(x, 2, 0, NEED, 9, 50);
        Due.runs("the last one", x, -1, "call 0 0 4", "throws 5 19");
        Due.runs("not the one between", x, 1, "call 0 0 4", "throws 5 5");
    }

    /** "steps: it had a STEPS at most" */
    private static void steps() {
        told("call 0 0 5", "steps 4");
        told("call 0 0 5", "steps " + MOST);
        notTold("call 0 0 5", "steps 3");
        told("call 1 1 5", "steps 0");
        notTold("call 1 1 5", "steps -1");
        notTold("call 1 1 5", "steps " + LEAST);
        told("call 0 0 4", "throws 12 12", "steps 1");
        notTold("call 0 0 4", "throws 12 12", "steps 0");
        notTold("steps 100");
        notTold("steps " + MOST);
    }

    /** "coins: ACCOUNT a has b" */
    private static void coins() {
        told("coins 0 100");
        notTold("coins 0 99");
        notTold("coins 0 101");
        told("coins 11 0");
        notTold("coins 12 0");
        notTold("coins -1 0");
        notTold("coins -1 -1");
        notTold("coins 12 -1");
        LedgerTests x = ledger();
        x.account(11, COINS);
        Due.runs("most coins", x, -1, "coins 11 " + COINS);
    }

    /** "cell: CELL b of CONTRACT a is c" */
    private static void cells() {
        told("cell 0 0 0", "cell 1 3 0");
        notTold("cell 1 4 0");
        notTold("cell 1 -1 0");
        notTold("cell 0 4 0");
        notTold("cell 2 0 0");
        notTold("cell -1 0 0");
        notTold("cell -1 4 0");
        told("call 0 0 5", "cell 0 1 5");
        notTold("call 0 0 5", "cell 0 1 4");
        notTold("call 0 0 5", "cell 0 1 6");
        LedgerTests x = Made.contracts(4);
        Due.steps(x, 3, 0, SET, 3, 0);
        Due.runs("the last CELL of all", x, -1, "call 3 0 " + LEAST, "cell 3 3 " + LEAST);
        Due.runs("no CONTRACT 4", x, 0, "cell 4 0 0");
    }

    /** "event: the EVENT numbered a (from 0) of those that came in this RUN is b" */
    private static void events() {
        told("call 0 0 5", "event 0 6");
        notTold("call 0 0 5", "event 0 5");
        notTold("call 0 0 5", "event -1 0");
        notTold("call 0 0 5", "event 1 0");
        told("call 0 0 5", "call 0 0 7", "event 1 8", "event 0 6");
        notTold("call 0 0 5", "call 0 0 7", "event 2 0");
        notTold("event 0 0");
        LedgerTests x = ledger();
        x.call(0, 0, 0, 20, 0);
        x.call(0, 0, 0, 30, 0);
        Due.runs("those ahead did not come in it", x, 0, "event 0 21");
        Due.runs("nor behind the last one", x, 1, "call 0 0 5", "event -1 31");
        Due.runs("numbered from 0", x, -1, "call 0 0 5", "event 0 6");
        Due.runs("no EVENT 1", x, 1, "call 0 0 5", "event 1 0");
        Due.runs("the most int", x, 1, "call 0 0 5", "event " + MOST + " 0");
        Due.runs("the least int", x, 1, "call 0 0 5", "event " + LEAST + " 0");
        Due.runs("one that THREW made none", x, 2, "call 0 0 4", "throws 12 12", "event 0 5");
    }

    /** The same sentence where back takes EVENTS away. */
    private static void eventsWithForks() {
        LedgerTests x = ledger();
        x.call(0, 0, 0, 20, 0);
        Due.runs("those of the FORK", x, -1, "call 0 0 5", "fork 0", "call 0 0 7", "back 0", "event 0 6", "call 0 0 9", "event 1 10");
        Due.runs("no more than those", x, 4, "call 0 0 5", "fork 0", "call 0 0 7", "back 0", "event 1 8");
        Due.runs("none of the FORK", x, 3, "fork 0", "call 0 0 7", "back 0", "event 0 8");
    }

    /** "40 at most: more are lost", in a RUN, too. */
    private static void fullEvents() {
        LedgerTests x = ledger();
        for (int i = 0; i < 39; i++) {
            x.call(0, 0, 0, 20, 0);
        }
        Due.runs("the 40th", x, -1, "call 0 0 5", "event 0 6");
        Due.runs("the 41st", x, 3, "call 0 0 5", "call 0 0 7", "event 0 6", "event 1 8");
        x.call(0, 0, 0, 20, 0);
        Due.runs("none", x, 1, "call 0 0 5", "event 0 6");
        Due.is("40", x.count(1), 40);
        Due.is("the last one", x.event(39), 21);
    }

    /** "sum: the COINS of all ACCOUNTS are a" */
    private static void sums() {
        told("sum 140");
        notTold("sum 139");
        notTold("sum 141");
        told("by 0 100", "call 0 1 60", "sum 140");
        Due.runs("none", new LedgerTests(), -1, "sum 0");
        Due.runs("none", new LedgerTests(), 0, "sum 1");
        for (int a = 0; a <= 11; a++) {
            LedgerTests x = new LedgerTests();
            x.account(a, 7);
            Due.runs("all ACCOUNTS, " + a, x, -1, "sum 7");
        }
        LedgerTests z = Made.contracts(4);
        Due.steps(z, 0, 0, SET, 0, 0, EVENT, 0, 0);
        z.call(0, 0, 0, 9, 0);
        z.time(9);
        Due.runs("nothing but COINS", z, -1, "sum 0");
        LedgerTests y = new LedgerTests();
        y.account(0, COINS);
        y.account(5, COINS);
        y.account(11, MOST - 2 * COINS);
        Due.runs("as many as an int has", y, -1, "sum " + MOST);
        y.account(11, MOST - 2 * COINS + 1);
        Due.runs("one more", y, 0, "sum " + LEAST);
        Due.runs("one more", y, 0, "sum " + MOST);
    }

    /** "time: HEIGHT is a (0 .. 1000) more" */
    private static void time() {
        told("time 0", "call 1 0 9", "gives 0");
        told("time 1000", "call 1 0 9", "gives 1000");
        told("time 1000", "time 1000", "call 1 0 9", "gives 2000");
        notTold("time -1");
        notTold("time 1001");
        notTold("time " + LEAST);
        notTold("time " + MOST);
        LedgerTests x = ledger();
        x.time(1000);
        Due.runs("more than it is", x, -1, "time 1000", "call 1 0 9", "gives 2000");
        Due.is("as ahead", x.count(0), 1000);
    }

    /** "fork: THE STATE is kept as FORK a (0 .. 2). back: THE STATE is as FORK a" */
    private static void forks() {
        told("fork 0", "back 0");
        told("fork 2", "back 2");
        notTold("fork -1");
        notTold("fork 3");
        notTold("back -1");
        notTold("back 3");
        notTold("fork 0", "back -1");
        notTold("fork 2", "back 3");
        String[] ahead = {"by 4 9", "time 3", "call 0 0 8", "fork 0", "time 4", "by 0 50", "call 0 0 9", "call 0 1 20", "back 0"};
        for (String last : new String[] {"coins 4 31", "coins 0 100", "coins 3 0", "coins 8 9", "cell 0 1 8", "event 0 9", "sum 140"}) {
            LedgerTests x = ledger();
            Due.lines(x, 0, ahead);
            Due.lines(x, 0, last);
            Due.is("as the FORK: " + last, x.run(0), -1);
        }
        LedgerTests y = ledger();
        Due.lines(y, 0, ahead);
        Due.lines(y, 0, "call 1 0 0", "gives 3");
        Due.is("as the FORK: HEIGHT", y.run(0), -1);
    }

    /** The three FORKS are apart, and each is the latest one that was kept under its number. */
    private static void threeForks() {
        for (int fork = 0; fork <= 2; fork++) {
            LedgerTests x = ledger();
            Due.lines(x, 0, "call 0 0 5", "fork 0", "call 0 0 6", "fork 1", "call 0 0 7", "fork 2", "call 0 0 8");
            Due.lines(x, 0, "back " + fork, "cell 0 1 " + (5 + fork), "back 0", "cell 0 1 5", "back 2", "cell 0 1 7");
            Due.is("FORK " + fork, x.run(0), -1);
        }
        told("fork 1", "call 0 0 6", "fork 1", "call 0 0 7", "back 1", "cell 0 1 6");
        told("fork 1", "call 0 0 6", "back 1", "cell 0 1 0", "call 0 0 7", "back 1", "cell 0 1 0");
    }

    /** "of this RUN": without a fork ahead of it, back is not AS TOLD. */
    private static void backIsOfThisRun() {
        for (int fork = 0; fork <= 2; fork++) {
            notTold("back " + fork);
            notTold("fork " + (fork + 1) % 3, "fork " + (fork + 2) % 3, "back " + fork);
            LedgerTests x = ledger();
            Due.runs("kept", x, -1, "fork 0", "fork 1", "fork 2");
            Due.runs("not of this RUN", x, 0, "back " + fork);
        }
    }

    /** "face: FACE a answers b in this RUN, whatever it is bound to (no CALL, no STEP)" */
    private static void faces() {
        told("face 0 7");
        told("face 3 7");
        notTold("face -1 7");
        notTold("face 4 7");
        told("face 2 " + LEAST, "call 0 2 0", "gives " + (LEAST + 1), "steps 2");
        told("face 2 " + MOST, "call 0 2 0", "gives " + LEAST);
        told("face 1 7", "face 3 7", "call 0 2 0", "throws 5 3");
        for (int face = 0; face <= 3; face++) {
            LedgerTests x = Made.of(ASK, face, 0);
            Due.steps(x, 0, 1, NEED, 0, 50);
            x.bind(face, 0, 1);
            Due.runs("bound", x, -1, "call 0 0 1", "throws 5 10");
            int had = x.count(3);
            Due.runs("whatever it is bound to", x, -1, "face " + face + " 7", "call 0 0 1", "gives 7", "steps 1");
            Due.is("no CALL, no STEP", x.count(3), had + 2);
            Due.runs("in that RUN", x, -1, "call 0 0 1", "throws 5 10");
        }
    }

    /** "fails: FACE a THROWS 20 and b (0 .. 5) in this RUN likewise" */
    private static void fails() {
        told("fails 0 0");
        told("fails 3 5");
        notTold("fails -1 0");
        notTold("fails 4 0");
        notTold("fails 2 -1");
        notTold("fails 2 6");
        for (int b = 0; b <= 5; b++) {
            told("fails 2 " + b, "call 0 2 0", "throws 5 " + (20 + b), "steps 1");
        }
        LedgerTests x = ledger();
        x.bind(2, 1, 1);
        int had = x.count(3);
        Due.runs("whatever it is bound to", x, -1, "fails 2 5", "call 0 2 0", "throws 5 25");
        Due.is("no CALL, no STEP", x.count(3), had + 2);
        Due.runs("in that RUN", x, -1, "call 0 2 0", "gives 1");
        Due.runs("the last one of both", x, -1, "fails 2 5", "face 2 7", "call 0 2 0", "gives 8", "fails 2 0", "call 0 2 0", "throws 5 20");
        Due.steps(x, 1, 2, TRY, 1, 0, ASK, 2, 0);
        Due.runs("a TRY holds it as 5", x, -1, "fails 2 5", "call 1 2 0", "gives 5");
    }
}
