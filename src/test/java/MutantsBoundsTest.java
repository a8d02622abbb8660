/**
 * The boundaries that the document names in its terms, parts 3 and 4 (MUTANTS, JUDGED, SHRUNK),
 * sentence by sentence.
 */
public final class MutantsBoundsTest {
    private static final int SET = 0, GET = 1, ADD = 2, LESS = 3, NEED = 4, PAY = 5, EVENT = 6;
    private static final int UNLESS = 7, ASK = 8, TRY = 9, AGE = 10, PART = 11;
    private static final int LEAST = Integer.MIN_VALUE, MOST = Integer.MAX_VALUE;
    private static final int NO = -1;

    private MutantsBoundsTest() {
    }

    public static void main(String[] args) {
        howManyOfEachKind();
        inOrder();
        mostMutants();
        addOneMore();
        addTurned();
        addWraps();
        needOneMore();
        needNever();
        unlessOneMore();
        unlessTurned();
        unlessTurnedIsCovered();
        payToTheNext();
        othersDoNothing();
        doingNothingCounts();
        tryAndAskDoNothing();
        judgedByThoseThatPassed();
        judgedInOrder();
        judgedWithoutTests();
        judgedWithoutMutants();
        stepsAreAsAhead();
        shrunkToOne();
        shrunkFromSixteen();
        shrunkAtTheVeryLine();
        shrunkAgain();
        shrunkNoMore();
        shrunkFromTheFirstOn();
        shrunkNot();
        Due.end();
    }

    /** "MUTANTS of a CONTRACT": two of an ADD, a NEED, an UNLESS, one of each other STEP. */
    private static void howManyOfEachKind() {
        for (int kind = 0; kind <= 11; kind++) {
            boolean two = kind == ADD || kind == NEED || kind == UNLESS;
            LedgerTests x = Made.of(kind, 1, 5);
            Due.is("MUTANTS of kind " + kind, x.mutants(0), two ? 2 : 1);
            Due.is("the first one", x.mutant(0, 0, 2), 0);
            Due.is("the second one", x.mutant(0, 1, 2), two ? 1 : -1);
            Due.is("a third one", x.mutant(0, 2, 2), -1);
        }
        Due.is("no STEPS", Made.contracts(1).mutants(0), 0);
        Due.is("no STEPS", Made.contracts(1).mutant(0, 0, 0), -1);
    }

    /** "by MEMBERS, STEPS, in order" */
    private static void inOrder() {
        LedgerTests x = Made.contracts(4);
        Due.steps(x, 3, 2, ADD, 0, 1);
        Due.steps(x, 3, 0, SET, 0, 0, NEED, 0, 1);
        int[][] due = {{0, 0, 0}, {0, 1, 0}, {0, 1, 1}, {2, 0, 0}, {2, 0, 1}};
        Due.is("MUTANTS", x.mutants(3), 5);
        for (int i = 0; i < 5; i++) {
            for (int what = 0; what <= 2; what++) {
                Due.is("MUTANT " + i + ", " + what, x.mutant(3, i, what), due[i][what]);
            }
        }
        for (int what = 0; what <= 2; what++) {
            Due.is("MUTANT 5", x.mutant(3, 5, what), -1);
            Due.is("MUTANT -1", x.mutant(3, -1, what), -1);
        }
        Due.is("another CONTRACT", x.mutants(2), 0);
    }

    /** 24 STEPS have 48 MUTANTS; in each CONTRACT the last one is judged, too. */
    private static void mostMutants() {
        for (int c = 0; c <= 3; c++) {
            LedgerTests x = Made.contracts(4);
            for (int i = 0; i < 24; i++) {
                Due.steps(x, c, i / 8, ADD, 0, 1);
            }
            Due.is("48 MUTANTS", x.mutants(c), 48);
            Due.is("the last one's MEMBER", x.mutant(c, 47, 0), 2);
            Due.is("the last one's STEP", x.mutant(c, 47, 1), 7);
            Due.is("the last one is a second one", x.mutant(c, 47, 2), 1);
            Due.is("no 49th", x.mutant(c, 48, 0), -1);
            Due.lines(x, 5, "call " + c + " 2 0", "gives 8");
            Due.is("those of MEMBER 2", x.judge(c), 16);
            Due.is("the last one of MEMBER 1", x.killer(c, 31), NO);
            Due.is("the first one of MEMBER 2", x.killer(c, 32), 5);
            Due.is("the last one", x.killer(c, 47), 5);
            Due.is("no 49th", x.killer(c, 48), -2);
            for (int other = 0; other <= 3; other++) {
                Due.is("of CONTRACT " + other, x.killer(other, 0), other == c ? NO : -2);
            }
        }
    }

    /**
     * CONTRACT 0's STEPS, then an ASK of CONTRACT 1, which THROWS if VALUE is outside low .. high; so
     * a MUTANT is KILLED if and only if it brings VALUE there.
     */
    private static LedgerTests bounded(int low, int high, int argument, int... steps) {
        LedgerTests x = Made.contracts(2);
        Due.steps(x, 0, 0, steps);
        Due.steps(x, 0, 0, ASK, 0, 0);
        x.bind(0, 1, 0);
        Due.steps(x, 1, 0, NEED, 0, low, SET, 0, 0, GET, 1, 0, LESS, 0, 0, NEED, 1, -high);
        Due.lines(x, 0, "call 0 0 " + argument);
        Due.is("it PASSES as things are", x.run(0), -1);
        x.judge(0);
        return x;
    }

    /** "an ADD: with b + 1" */
    private static void addOneMore() {
        for (int b : new int[] {-3, -1, 0, 1, 8}) {
            int as = 20 + b;
            Due.is("one more is within, b = " + b, bounded(-99, as + 1, 20, ADD, 0, b).killer(0, 0), NO);
            Due.is("one more is outside, b = " + b, bounded(-99, as, 20, ADD, 0, b).killer(0, 0), 0);
            Due.is("one more is no less, b = " + b, bounded(as, as + 1, 20, ADD, 0, b).killer(0, 0), NO);
        }
    }

    /** "with -b" */
    private static void addTurned() {
        for (int b : new int[] {1, 8}) {
            Due.is("-b is within, b = " + b, bounded(20 - b, 99, 20, ADD, 0, b).killer(0, 1), NO);
            Due.is("-b is outside, b = " + b, bounded(20 - b + 1, 99, 20, ADD, 0, b).killer(0, 1), 0);
            Due.is("-b is within, b = " + -b, bounded(-99, 20 + b, 20, ADD, 0, -b).killer(0, 1), NO);
            Due.is("-b is outside, b = " + -b, bounded(-99, 20 + b - 1, 20, ADD, 0, -b).killer(0, 1), 0);
        }
        Due.is("-0 is 0", bounded(20, 20, 20, ADD, 0, 0).killer(0, 1), NO);
    }

    /** b + 1 and -b are sums of ints, and wrap. */
    private static void addWraps() {
        LedgerTests x = Made.of(ADD, 0, LEAST);
        Due.lines(x, 0, "call 0 0 7", "gives " + (LEAST + 7));
        Due.is("-b of the least int is itself", x.judge(0), 1);
        Due.is("b + 1", x.killer(0, 0), 0);
        Due.is("-b", x.killer(0, 1), NO);
        LedgerTests y = Made.of(ADD, 0, MOST);
        Due.lines(y, 0, "call 0 0 -5");
        y.judge(0);
        Due.is("-b of the most int", y.told(0), -5 - MOST);
        Due.is("b + 1 of the most int", bounded(-1, 0, 0, ADD, 0, 1, ADD, 0, LEAST, ADD, 0, MOST).killer(0, 4), 0);
        Due.is("it is the least int", bounded(0, 1, 0, ADD, 0, 1, ADD, 0, LEAST, ADD, 0, MOST).killer(0, 4), NO);
    }

    /** "NEED: with b + 1" */
    private static void needOneMore() {
        for (int b : new int[] {LEAST, -1, 0, 5, MOST - 1}) {
            LedgerTests x = Made.of(NEED, 4, b);
            Due.lines(x, 0, "call 0 0 " + (b + 1));
            Due.is("VALUE is b + 1, b = " + b, x.judge(0), 0);
            Due.lines(x, 1, "call 0 0 " + b);
            Due.is("VALUE is b, b = " + b, x.judge(0), 1);
            Due.is("with b + 1", x.killer(0, 0), 1);
            Due.is("never", x.killer(0, 1), NO);
        }
        LedgerTests y = Made.of(NEED, 4, MOST);
        Due.lines(y, 0, "call 0 0 " + MOST);
        Due.is("b + 1 wraps: none is below it", y.judge(0), 0);
    }

    /** "it never THROWS" */
    private static void needNever() {
        for (int b : new int[] {LEAST + 1, 0, 5, MOST}) {
            LedgerTests x = Made.of(NEED, 4, b);
            Due.lines(x, 0, "call 0 0 " + (b - 1), "throws 14 14");
            Due.lines(x, 1, "call 0 0 " + LEAST, "throws 14 14");
            x.judge(0);
            Due.is("one below b, b = " + b, x.killer(0, 1), 0);
            x.clear(0);
            x.judge(0);
            Due.is("the least int, b = " + b, x.killer(0, 1), 1);
        }
        LedgerTests y = Made.of(NEED, 4, LEAST);
        Due.lines(y, 0, "call 0 0 " + LEAST);
        y.judge(0);
        Due.is("none ever is below the least int", y.killer(0, 1), NO);
    }

    /** "UNLESS: with a + 1": VALUE is below b, and of seven EVENTS 7 - a come, 6 - a with the MUTANT. */
    private static void unlessOneMore() {
        for (int a = 1; a <= 7; a++) {
            LedgerTests x = Made.of(UNLESS, a, 5);
            for (int i = 0; i < 7; i++) {
                Due.steps(x, 0, 0, EVENT, 0, 0);
            }
            String[] come = {"call 0 0 4", "event " + (6 - a) + " 4"};
            String[] comeWithIt = {"call 0 0 4", "event " + (5 - a) + " 4"};
            if (a < 6) {
                Due.lines(x, 0, comeWithIt);
            }
            if (a < 7) {
                Due.lines(x, 1, come);
            }
            x.judge(0);
            Due.is("with " + (a + 1), x.killer(0, 0), a < 7 ? 1 : NO);
        }
        LedgerTests y = Made.of(UNLESS, 1, 5, EVENT, 0, 0, EVENT, 0, 0);
        Due.lines(y, 0, "call 0 0 5", "event 1 5");
        y.judge(0);
        Due.is("it does not pass over at b", y.killer(0, 0), NO);
        LedgerTests z = Made.of(TRY, 2, 0, UNLESS, 1, 5, EVENT, 0, 0, EVENT, 0, 0);
        Due.lines(z, 0, "call 0 0 4", "event 0 4");
        z.judge(0);
        Due.is("within those of a TRY around", z.killer(0, 1), NO);
    }

    /** "it passes over where it does not" */
    private static void unlessTurned() {
        for (int b : new int[] {LEAST + 1, 0, 5, MOST}) {
            LedgerTests x = Made.of(UNLESS, 1, b, EVENT, 0, 0);
            Due.lines(x, 1, "call 0 0 " + b, "event 0 " + b);
            Due.is("at b, b = " + b, x.judge(0), 2);
            Due.is("at b", x.killer(0, 1), 1);
            Due.is("the EVENT", x.killer(0, 2), 1);
            LedgerTests y = Made.of(UNLESS, 1, b, NEED, 0, MOST);
            Due.lines(y, 1, "call 0 0 " + (b - 1));
            Due.is("one below b, b = " + b, y.judge(0), 1);
            Due.is("one below b", y.killer(0, 1), 1);
        }
        LedgerTests z = Made.of(UNLESS, 2, 5, EVENT, 0, 0, ADD, 0, 1, EVENT, 0, 0);
        Due.lines(z, 0, "call 0 0 5");
        Due.is("nobody looks", z.judge(0), 0);
        Due.lines(z, 1, "call 0 0 5", "gives 6", "event 0 5");
        z.judge(0);
        Due.is("it passes over a of them", z.killer(0, 1), 1);
    }

    /** Whether it passed over is COVERED as the MUTANT did. */
    private static void unlessTurnedIsCovered() {
        LedgerTests x = Made.of(UNLESS, 1, 5, ADD, 0, 1);
        Due.lines(x, 0, "call 0 0 5");
        Due.is("run", x.run(0), -1);
        Due.is("it does not", x.covered(0, 0), 3 | 1 << 16);
        x.judge(0);
        Due.is("the MUTANT does", x.covered(0, 0), 3 | 1 << 16 | 1 << 8);
        LedgerTests y = Made.of(UNLESS, 1, 5, ADD, 0, 1);
        Due.lines(y, 0, "call 0 0 4");
        Due.is("run", y.run(0), -1);
        Due.is("it does", y.covered(0, 0), 1 | 1 << 8);
        y.judge(0);
        Due.is("the MUTANT does not", y.covered(0, 0), 3 | 1 << 16 | 1 << 8);
    }

    /** "PAY: to ACCOUNT a + 1 (of 11: 0)" */
    private static void payToTheNext() {
        for (int a = 0; a <= 11; a++) {
            int next = a == 11 ? 0 : a + 1;
            for (int look = 0; look <= 11; look++) {
                LedgerTests x = Made.contracts(2);
                x.account(9, 50);
                Due.steps(x, 1, 0, PAY, a, 0);
                int has = look == 9 ? a == 9 ? 50 : 46 : look == a ? 4 : 0;
                int hasThen = look == 9 ? next == 9 ? 50 : 46 : look == next ? 4 : 0;
                Due.lines(x, 2, "call 1 0 4", "coins " + look + " " + has);
                x.judge(1);
                Due.is("PAY to " + a + ", coins of " + look, x.killer(1, 0), has == hasThen ? NO : 2);
            }
        }
        LedgerTests y = Made.of(PAY, 10, 0);
        y.account(8, 50);
        y.account(11, 1000000000);
        Due.lines(y, 0, "call 0 0 4");
        Due.is("the next one is full: THROW 2", y.judge(0), 1);
    }

    /** "Each other one: it does nothing": a TEST that tells what the STEP did notices it. */
    private static void othersDoNothing() {
        int[][] steps = {{SET, 0}, {GET, 2}, {LESS, 2}, {EVENT, 0}, {AGE, 0}, {PART, 3}};
        String[] looks = {"cell 0 0 5", "gives 77", "gives -72", "event 0 5", "gives 30", "gives 2"};
        for (int i = 0; i < steps.length; i++) {
            LedgerTests x = Made.of(steps[i][0], steps[i][1], 0);
            Due.steps(x, 0, 1, SET, 2, 0);
            Due.steps(x, 0, 2, SET, 3, 0);
            x.call(0, 0, 1, 77, 0);
            x.call(0, 0, 2, 2, 0);
            x.time(30);
            Due.lines(x, 0, "call 0 0 5");
            Due.lines(x, 1, "call 0 0 5", looks[i]);
            Due.is("it PASSES, " + looks[i], x.run(1), -1);
            Due.is("one MUTANT is noticed, " + looks[i], x.judge(0), 1);
            Due.is("by the one that looks", x.killer(0, 0), 1);
            Due.is("not the STEPS of other MEMBERS", x.killer(0, 1), NO);
            Due.is("not the STEPS of other MEMBERS", x.killer(0, 2), NO);
        }
    }

    /** "(and counts)" */
    private static void doingNothingCounts() {
        int[] kinds = {SET, GET, LESS, EVENT, AGE, PART, NEED, TRY, ASK};
        for (int kind : kinds) {
            LedgerTests x = Made.contracts(1);
            Due.steps(x, 0, 1, SET, 1, 0);
            x.call(0, 0, 1, 1, 0);
            x.bind(1, 0, 2);
            Due.steps(x, 0, 0, kind, 1, -9);
            Due.lines(x, 0, "call 0 0 5");
            Due.is("as it is", x.run(0), -1);
            int had = x.count(3);
            Due.is("judge", x.judge(0), 0);
            int first = kind == ASK ? 3 : 2;
            int ofSecond = kind == NEED ? 2 : 0;
            // As things are, the MUTANTS of this STEP, and the MUTANT of MEMBER 1, which is not called.
            Due.is("STEPS and CALLS, kind " + kind, x.count(3), had + first + 2 + ofSecond + first);
            Due.is("STEPS, kind " + kind, x.told(3), 1);
            Due.is("COVERED, kind " + kind, x.covered(0, 0), 1);
        }
    }

    /** A TRY that does nothing holds nothing; an ASK that does nothing makes no CALL. */
    private static void tryAndAskDoNothing() {
        LedgerTests x = Made.of(TRY, 1, 0, NEED, 0, 5);
        Due.lines(x, 0, "call 0 0 5");
        Due.lines(x, 1, "call 0 0 4", "gives 10");
        x.judge(0);
        Due.is("TRY", x.killer(0, 0), 1);
        LedgerTests y = Made.of(ASK, 0, 0);
        Due.lines(y, 0, "call 0 0 4", "throws 5 3");
        y.judge(0);
        Due.is("ASK of none", y.killer(0, 0), 0);
        Due.is("VALUE stays", y.told(0), 4);
        LedgerTests z = Made.of(ASK, 0, 0);
        z.bind(0, 0, 1);
        Due.lines(z, 0, "call 0 0 4");
        int had = z.count(3);
        z.judge(0);
        Due.is("ASK, no CALL", z.count(3), had + 3 + 2);
    }

    /** "those that PASSED": one that FAILED at first is no witness, whatever it does then. */
    private static void judgedByThoseThatPassed() {
        LedgerTests x = Made.of(ADD, 0, 1);
        Due.lines(x, 0, "call 0 0 1", "gives 3");
        Due.lines(x, 1, "call 0 0 1", "gives 9");
        Due.is("all FAIL", x.judge(0), 0);
        Due.is("b + 1, by which TEST 0 would PASS", x.killer(0, 0), NO);
        Due.is("-b", x.killer(0, 1), NO);
        Due.is("they were RUN once", x.count(3), 4);
        Due.lines(x, 5, "call 0 0 1", "gives 2");
        Due.is("one PASSES", x.judge(0), 2);
        Due.is("b + 1", x.killer(0, 0), 5);
        Due.is("-b", x.killer(0, 1), 5);
        Due.is("three, then the one twice", x.count(3), 4 + 6 + 4);
    }

    /** "in order: it is KILLED by the first one that FAILS" */
    private static void judgedInOrder() {
        for (int first = 0; first <= 5; first++) {
            LedgerTests x = Made.of(SET, 0, 0);
            for (int test = 0; test <= 5; test++) {
                Due.lines(x, test, "call 0 0 1", test < first ? "gives 1" : "cell 0 0 1");
            }
            Due.is("judge", x.judge(0), 1);
            Due.is("the first one", x.killer(0, 0), first);
            Due.is("none behind it is RUN", x.count(3), 6 * 2 + (first + 1) * 2);
        }
    }

    /** TESTS without LINES PASS, and notice nothing. */
    private static void judgedWithoutTests() {
        LedgerTests x = Made.of(ADD, 0, 1);
        Due.is("no LINES", x.judge(0), 0);
        Due.is("it was judged", x.killer(0, 0), NO);
        Due.is("it was judged", x.killer(0, 1), NO);
        Due.is("there was no such MUTANT", x.killer(0, 2), -2);
        Due.is("no CALL", x.count(3), 0);
    }

    /** "first all TESTS are RUN", where there is no MUTANT, too. */
    private static void judgedWithoutMutants() {
        LedgerTests x = Made.contracts(2);
        Due.steps(x, 0, 0, ADD, 0, 1);
        Due.lines(x, 0, "call 0 0 1");
        Due.is("no MUTANTS", x.judge(1), 0);
        Due.is("RUN once", x.count(3), 2);
        Due.is("there was no such MUTANT", x.killer(1, 0), -2);
        Due.is("no judge() of this one", x.killer(0, 0), -2);
    }

    /** "in place of its STEP": behind judge() every STEP is as ahead of it. */
    private static void stepsAreAsAhead() {
        int[][] kinds = {
            {SET, 0, 3}, {GET, 0, 3}, {ADD, 0, 3}, {LESS, 0, 3}, {NEED, 9, 5}, {PAY, 11, 0}, {EVENT, 0, 0},
            {UNLESS, 7, 5}, {ASK, 0, 0}, {TRY, 7, 0}, {AGE, 0, 0}, {PART, 2, 0},
        };
        for (int[] kind : kinds) {
            Due.is("kind " + kind[0], Sight.of(x -> stepsAhead(x, kind)).equals(Sight.of(x -> {
                stepsAhead(x, kind);
                x.judge(0);
            })) ? 1 : 0, 1);
        }
    }

    /** The TESTS are judged once already, so that a second judge() shows in nothing but the STEPS. */
    private static void stepsAhead(LedgerTests x, int[] kind) {
        x.contract();
        x.account(0, 60);
        x.account(8, 50);
        Due.steps(x, 0, 0, kind[0], kind[1], kind[2], ADD, 0, 2, SET, 1, 0, NEED, 1, 5);
        Due.lines(x, 0, "sum 110");
        x.judge(0);
    }

    /** "SHRUNK is a TEST that FAILS": where it has one LINE, that stays. */
    private static void shrunkToOne() {
        LedgerTests x = Made.of(ADD, 0, 1);
        Due.lines(x, 0, "sum 1 2 3");
        Due.is("one LINE", x.shrink(0), 1);
        looksLike(x, 0, "sum 1 2 3");
        Due.lines(x, 1, "sum 0", "sum 1 2 3");
        Due.is("two LINES, the last one FAILS", x.shrink(1), 1);
        looksLike(x, 1, "sum 1 2 3");
        Due.lines(x, 2, "sum 1 2 3", "sum 0");
        Due.is("two LINES, the first one FAILS", x.shrink(2), 1);
        looksLike(x, 2, "sum 1 2 3");
    }

    private static void looksLike(LedgerTests x, int test, String... lines) {
        LedgerTests due = new LedgerTests();
        Due.lines(due, 0, lines);
        Due.is("LINES", x.count(4 + test), lines.length);
        for (int i = 0; i <= lines.length; i++) {
            for (int what = 0; what <= 3; what++) {
                Due.is("LINE " + i + ", " + what, x.lineOf(test, i, what), due.lineOf(0, i, what));
            }
        }
    }

    /** "from the first LINE on .. so to the last one": of 16, wherever it FAILS. */
    private static void shrunkFromSixteen() {
        for (int failing = 0; failing < 16; failing++) {
            LedgerTests x = Made.of(ADD, 0, 1);
            for (int i = 0; i < 16; i++) {
                Due.lines(x, 4, i == failing ? "sum 1 2 3" : "time 1 7 " + i);
            }
            Due.is("FAILS at " + failing, x.run(4), failing);
            Due.is("all others go", x.shrink(4), 1);
            looksLike(x, 4, "sum 1 2 3");
        }
        LedgerTests y = Made.contracts(1);
        for (int i = 0; i < 16; i++) {
            Due.lines(y, 0, "time 1000");
        }
        Due.is("16 that PASS", y.shrink(0), -1);
        Due.is("16", y.count(4), 16);
    }

    /** "if the TEST without it FAILS, too, and at the very LINE at which it FAILED at first, it goes" */
    private static void shrunkAtTheVeryLine() {
        LedgerTests x = Made.of(SET, 0, 0);
        Due.lines(x, 0, "call 0 0 5", "cell 0 0 0");
        Due.is("without the call it PASSES", x.shrink(0), 2);
        looksLike(x, 0, "call 0 0 5", "cell 0 0 0");
        Due.lines(x, 1, "call 0 0 5", "gives 5", "cell 0 0 0");
        Due.is("without gives it FAILS at the same LINE", x.shrink(1), 2);
        looksLike(x, 1, "call 0 0 5", "cell 0 0 0");
        LedgerTests y = Made.of(NEED, 0, 5);
        Due.lines(y, 0, "call 0 0 4", "throws 10 10", "sum 1");
        Due.is("without one of two it FAILS at the other one", y.shrink(0), 3);
        looksLike(y, 0, "call 0 0 4", "throws 10 10", "sum 1");
        Due.lines(y, 1, "sum 1 0 1", "sum 1 0 2", "sum 1 0 1");
        Due.is("the very LINE, not its like", y.shrink(1), 1);
        looksLike(y, 1, "sum 1 0 1");
        LedgerTests z = Made.of(NEED, 0, 5);
        Due.lines(z, 0, "call 0 0 4", "throws 11 10", "throws 11 10");
        // Without the call, throws is still not AS TOLD: there is no CALL.
        Due.is("for another cause, but at that LINE", z.shrink(0), 1);
        looksLike(z, 0, "throws 11 10");
        LedgerTests u = Made.of(NEED, 0, 5);
        Due.lines(u, 0, "call 0 0 4", "sum 0", "throws 10 10");
        // Without sum it PASSES at first; when throws has gone, it does not.
        Due.is("sum goes behind throws", u.shrink(0), 1);
        looksLike(u, 0, "call 0 0 4");
    }

    /** "this again, as long as one went" */
    private static void shrunkAgain() {
        // gives goes in the first round, call, which it is in need of, in the second, face in the third.
        LedgerTests x = Made.of(ASK, 2, 0);
        Due.lines(x, 0, "face 2 7", "call 0 0 0", "gives 7", "sum 1");
        Due.is("three rounds", x.shrink(0), 1);
        looksLike(x, 0, "sum 1");
        LedgerTests y = Made.of(ASK, 2, 0);
        Due.lines(y, 0, "fork 0", "back 0", "fork 1", "back 1", "sum 1");
        Due.is("two rounds", y.shrink(0), 1);
        looksLike(y, 0, "sum 1");
        LedgerTests z = Made.of(ASK, 2, 0);
        Due.lines(z, 0, "face 2 7", "call 0 0 0", "gives 7", "steps 1", "gives 8");
        Due.is("the failing LINE may be in need of no other one", z.shrink(0), 1);
        looksLike(z, 0, "gives 8");
    }

    /** "as long as one went": a round in which none went is the last one. */
    private static void shrunkNoMore() {
        LedgerTests x = Made.of(SET, 0, 0);
        Due.lines(x, 0, "call 0 0 5", "cell 0 0 0");
        Due.is("none went", x.shrink(0), 2);
        // A CALL and a STEP as it is; none without the call; both without cell.
        Due.is("one round", x.count(3), 2 + 0 + 2);
        LedgerTests y = Made.of(SET, 0, 0);
        Due.lines(y, 0, "time 1", "call 0 0 5", "cell 0 0 0");
        Due.is("one went", y.shrink(0), 2);
        Due.is("two rounds", y.count(3), 2 + 2 + 0 + 2 + 0 + 2);
        LedgerTests z = Made.of(SET, 0, 0);
        Due.lines(z, 0, "cell 0 0 9", "call 0 0 5");
        Due.is("the last one went", z.shrink(0), 1);
        // Without cell, in the first round, the call is come to.
        Due.is("two rounds", z.count(3), 2);
    }

    /** "from the first LINE on": of two that could go, but not both, the first one does. */
    private static void shrunkFromTheFirstOn() {
        LedgerTests x = Made.of(SET, 0, 0);
        Due.lines(x, 0, "call 0 0 5", "call 0 0 6", "call 0 0 7", "cell 0 0 0");
        Due.is("shrink", x.shrink(0), 2);
        looksLike(x, 0, "call 0 0 7", "cell 0 0 0");
        Due.lines(x, 1, "time 1", "time 2", "time 3", "call 0 0 9", "time 4", "cell 0 0 0", "time 5");
        Due.is("order stays", x.shrink(1), 2);
        looksLike(x, 1, "call 0 0 9", "cell 0 0 0");
        Due.is("another TEST stays", x.count(4), 2);
        LedgerTests y = Made.of(SET, 0, 0);
        Due.lines(y, 5, "by 0 0", "cell 0 0 0", "call 0 0 5", "cell 0 0 5", "call 0 0 6", "cell 0 0 0", "sum 9");
        Due.is("the first call is needed until cell 5 has gone, and the other one goes then", y.shrink(5), 2);
        looksLike(y, 5, "call 0 0 5", "cell 0 0 0");
    }

    /** "SHRUNK is a TEST that FAILS": one that PASSES stays whole. */
    private static void shrunkNot() {
        LedgerTests x = Made.of(SET, 0, 0);
        Due.is("no LINES", x.shrink(0), -1);
        Due.lines(x, 0, "sum 0");
        Due.is("one LINE", x.shrink(0), -1);
        looksLike(x, 0, "sum 0");
        Due.is("TEST -1", x.shrink(-1), -2);
        Due.is("TEST 6", x.shrink(6), -2);
    }
}
