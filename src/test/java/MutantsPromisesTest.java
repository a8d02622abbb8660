/** Promises 12 to 16: MUTANTS, who KILLS them, and TESTS that are SHRUNK. */
public final class MutantsPromisesTest {
    private static final int SET = 0, GET = 1, ADD = 2, LESS = 3, NEED = 4, PAY = 5, EVENT = 6;
    private static final int UNLESS = 7, ASK = 8, TRY = 9, AGE = 10, PART = 11;

    private MutantsPromisesTest() {
    }

    public static void main(String[] args) {
        mutantsOfAll();
        mutantsNone();
        adds();
        addsOneMore();
        needs();
        unless();
        unlessLonger();
        pays();
        others();
        tryThatDoesNothing();
        nothingCounts();
        judgesOnlyThosePassed();
        firstKiller();
        latestJudge();
        judgedIsAsAhead();
        judgeCounts();
        shrinks();
        shrinksAtThatLineAlone();
        shrinksAgain();
        shrinksNothing();
        shrinkCounts();
        Due.end();
    }

    private static LedgerTests contractOf(int... steps) {
        LedgerTests x = new LedgerTests();
        Due.is("contract", x.contract(), 0);
        Due.steps(x, 0, 0, steps);
        return x;
    }

    private static void lookAtMutant(LedgerTests x, int i, int member, int step, int second) {
        Due.is("member of " + i, x.mutant(0, i, 0), member);
        Due.is("step of " + i, x.mutant(0, i, 1), step);
        Due.is("second of " + i, x.mutant(0, i, 2), second);
    }

    private static void mutantsOfAll() {
        LedgerTests x = contractOf(SET, 0, 0, ADD, 0, 1, NEED, 0, 1);
        Due.steps(x, 0, 2, UNLESS, 1, 0, PAY, 1, 0, GET, 0, 0, LESS, 0, 0, EVENT, 0, 0);
        Due.is("mutants", x.mutants(0), 11);
        lookAtMutant(x, 0, 0, 0, 0);
        lookAtMutant(x, 1, 0, 1, 0);
        lookAtMutant(x, 2, 0, 1, 1);
        lookAtMutant(x, 3, 0, 2, 0);
        lookAtMutant(x, 4, 0, 2, 1);
        lookAtMutant(x, 5, 2, 0, 0);
        lookAtMutant(x, 6, 2, 0, 1);
        lookAtMutant(x, 7, 2, 1, 0);
        lookAtMutant(x, 10, 2, 4, 0);
        Due.is("mutant 11", x.mutant(0, 11, 0), -1);
        Due.is("mutant -1", x.mutant(0, -1, 0), -1);
        Due.is("what 3", x.mutant(0, 0, 3), -1);
        Due.is("what -1", x.mutant(0, 0, -1), -1);
        Due.is("no contract", x.mutant(1, 0, 0), -1);
        Due.steps(x, 0, 1, ASK, 0, 0, TRY, 1, 0, AGE, 0, 0, PART, 0, 0);
        Due.is("mutants", x.mutants(0), 15);
        lookAtMutant(x, 5, 1, 0, 0);
        lookAtMutant(x, 8, 1, 3, 0);
        lookAtMutant(x, 9, 2, 0, 0);
        LedgerTests y = new LedgerTests();
        y.contract();
        for (int i = 0; i < 24; i++) {
            Due.steps(y, 0, i / 8, ADD, 0, i);
        }
        Due.is("most mutants", y.mutants(0), 48);
        Due.is("the last one", y.mutant(0, 47, 1), 7);
        Due.line(y, 0, "call", 0, 2, 0);
        Due.line(y, 0, "gives", 16 + 17 + 18 + 19 + 20 + 21 + 22 + 23);
        Due.is("judge", y.judge(0), 16);
        Due.is("killer", y.killer(0, 47), 0);
        Due.is("killer", y.killer(0, 31), -1);
        Due.is("killer", y.killer(0, 48), -2);
    }

    private static void mutantsNone() {
        LedgerTests x = contractOf();
        Due.is("mutants", x.mutants(0), 0);
        Due.is("mutant", x.mutant(0, 0, 0), -1);
        Due.is("judge", x.judge(0), 0);
        Due.is("killer", x.killer(0, 0), -2);
        Due.is("mutants 1", x.mutants(1), -1);
        Due.is("mutants -1", x.mutants(-1), -1);
        Due.is("judge 1", x.judge(1), -1);
        Due.is("judge -1", x.judge(-1), -1);
        Due.is("killer 4", x.killer(4, 0), -2);
        Due.is("killer -1", x.killer(-1, 0), -2);
    }

    private static void adds() {
        LedgerTests x = contractOf(ADD, 0, 3);
        Due.line(x, 1, "call", 0, 0, 10);
        Due.line(x, 1, "gives", 13);
        Due.is("both", x.judge(0), 2);
        Due.is("first", x.killer(0, 0), 1);
        Due.is("second", x.killer(0, 1), 1);
        LedgerTests y = contractOf(ADD, 0, 0);
        Due.line(y, 1, "call", 0, 0, 10);
        Due.line(y, 1, "gives", 10);
        Due.is("-0 is 0", y.judge(0), 1);
        Due.is("first", y.killer(0, 0), 1);
        Due.is("second", y.killer(0, 1), -1);
        // With NEED 15 behind it: 10 + 4 is below, 10 + 5 is not, 10 - 5 is.
        LedgerTests z = contractOf(ADD, 0, 5, NEED, 0, 15);
        Due.line(z, 0, "call", 0, 0, 10);
        Due.is("-b, and b + 1 of NEED", z.judge(0), 2);
        Due.is("b + 1", z.killer(0, 0), -1);
        Due.is("-b", z.killer(0, 1), 0);
        Due.is("NEED b + 1", z.killer(0, 2), 0);
        Due.is("NEED never", z.killer(0, 3), -1);
    }

    private static void addsOneMore() {
        // By 2 and cut, 10 and 11 give the same, 12 and -10 do not.
        LedgerTests x = contractOf(SET, 0, 0, ADD, 0, 8, PART, 0, 0);
        Due.line(x, 0, "call", 0, 0, 2);
        Due.line(x, 0, "gives", 5);
        Due.is("judge", x.judge(0), 3);
        Due.is("b + 1", x.killer(0, 1), -1);
        Due.is("-b", x.killer(0, 2), 0);
        LedgerTests y = contractOf(UNLESS, 1, 5, ADD, 0, 10, SET, 0, 0, EVENT, 0, 0);
        Due.line(y, 0, "call", 0, 0, 4);
        Due.line(y, 0, "event", 0, 4);
        Due.is("judge", y.judge(0), 2);
        Due.is("a + 1, no more", y.killer(0, 0), -1);
        LedgerTests z = contractOf(NEED, 1, 5);
        Due.line(z, 0, "call", 0, 0, 6);
        Due.is("NEED b + 1, no more", z.judge(0), 0);
    }

    private static void needs() {
        LedgerTests x = contractOf(NEED, 4, 5);
        Due.line(x, 2, "call", 0, 0, 5);
        Due.line(x, 3, "call", 0, 0, 4);
        Due.line(x, 3, "throws", 14, 14);
        Due.line(x, 4, "call", 0, 0, 6);
        Due.is("both", x.judge(0), 2);
        Due.is("b + 1", x.killer(0, 0), 2);
        Due.is("never", x.killer(0, 1), 3);
        LedgerTests y = contractOf(NEED, 4, Integer.MAX_VALUE);
        Due.line(y, 0, "call", 0, 0, 4);
        Due.line(y, 0, "throws", 14, 14);
        Due.is("b + 1 wraps", y.judge(0), 2);
    }

    private static void unless() {
        LedgerTests x = contractOf(UNLESS, 1, 5, ADD, 0, 10);
        Due.line(x, 0, "call", 0, 0, 5);
        Due.line(x, 0, "gives", 15);
        Due.line(x, 1, "call", 0, 0, 4);
        Due.line(x, 1, "gives", 4);
        Due.is("judge", x.judge(0), 3);
        Due.is("a + 1 over the end", x.killer(0, 0), -1);
        Due.is("it passes over where it does not", x.killer(0, 1), 0);
        LedgerTests y = contractOf(UNLESS, 1, 5, ADD, 0, 10);
        Due.line(y, 1, "call", 0, 0, 4);
        Due.line(y, 1, "gives", 4);
        Due.is("judge", y.judge(0), 1);
        Due.is("it does not where it does", y.killer(0, 1), 1);
    }

    private static void unlessLonger() {
        LedgerTests x = contractOf(UNLESS, 1, 5, ADD, 0, 10, EVENT, 0, 0);
        Due.line(x, 1, "call", 0, 0, 4);
        Due.line(x, 1, "event", 0, 4);
        Due.is("judge", x.judge(0), 3);
        Due.is("a + 1", x.killer(0, 0), 1);
        Due.is("where it does not", x.killer(0, 1), 1);
        Due.is("ADD b + 1", x.killer(0, 2), -1);
        Due.is("EVENT", x.killer(0, 4), 1);
        LedgerTests y = contractOf(UNLESS, 7, 5, ADD, 0, 1, ADD, 0, 1, ADD, 0, 1, ADD, 0, 1, ADD, 0, 1, ADD, 0, 1, ADD, 0, 1);
        Due.line(y, 0, "call", 0, 0, 4);
        Due.line(y, 0, "gives", 4);
        Due.is("a of 7", y.judge(0), 1);
        Due.is("where it does not", y.killer(0, 1), 0);
    }

    private static void pays() {
        LedgerTests x = contractOf(PAY, 3, 0);
        Due.steps(x, 0, 1, PAY, 11, 0);
        Due.steps(x, 0, 2, PAY, 7, 0);
        x.account(8, 100);
        Due.line(x, 0, "call", 0, 0, 9);
        Due.line(x, 0, "coins", 4, 0);
        Due.line(x, 1, "call", 0, 1, 9);
        Due.line(x, 1, "coins", 0, 0);
        Due.line(x, 2, "call", 0, 2, 9);
        Due.line(x, 2, "coins", 8, 91);
        Due.is("judge", x.judge(0), 3);
        Due.is("to the next one", x.killer(0, 0), 0);
        Due.is("of 11: 0", x.killer(0, 1), 1);
        Due.is("to itself", x.killer(0, 2), 2);
    }

    private static void others() {
        LedgerTests x = contractOf(SET, 0, 0, GET, 1, 0, AGE, 0, 0, LESS, 0, 0, EVENT, 0, 0, PART, 0, 0, ASK, 0, 0);
        x.time(50);
        Due.line(x, 0, "face", 0, 77);
        Due.line(x, 0, "call", 0, 0, 5);
        Due.line(x, 0, "gives", 77);
        Due.line(x, 1, "face", 0, 77);
        Due.line(x, 1, "call", 0, 0, 5);
        Due.line(x, 1, "event", 0, 45);
        Due.line(x, 2, "call", 0, 0, 5);
        Due.line(x, 2, "throws", 5, 3);
        Due.is("judge", x.judge(0), 5);
        Due.is("SET: PART by 0", x.killer(0, 0), 0);
        Due.is("GET", x.killer(0, 1), -1);
        Due.is("AGE", x.killer(0, 2), 1);
        Due.is("LESS", x.killer(0, 3), 1);
        Due.is("EVENT", x.killer(0, 4), 1);
        Due.is("PART", x.killer(0, 5), -1);
        Due.is("ASK", x.killer(0, 6), 0);
    }

    private static void tryThatDoesNothing() {
        LedgerTests x = contractOf(TRY, 1, 0, NEED, 0, 5, ADD, 0, 1);
        Due.line(x, 0, "call", 0, 0, 1);
        Due.line(x, 0, "gives", 11);
        Due.is("judge", x.judge(0), 4);
        Due.is("TRY", x.killer(0, 0), 0);
        Due.is("NEED b + 1", x.killer(0, 1), -1);
        Due.is("NEED never", x.killer(0, 2), 0);
    }

    private static void nothingCounts() {
        LedgerTests x = contractOf(SET, 0, 0, NEED, 0, 0);
        Due.line(x, 0, "call", 0, 0, 1);
        Due.line(x, 0, "steps", 2);
        int had = x.count(3);
        Due.is("judge", x.judge(0), 0);
        Due.is("each RUN has a CALL and two STEPS", x.count(3), had + 3 * 4);
        Due.is("covered", x.covered(0, 0), 3);
    }

    private static void judgesOnlyThosePassed() {
        LedgerTests x = contractOf(ADD, 0, 1);
        Due.line(x, 0, "call", 0, 0, 1);
        Due.line(x, 0, "gives", 3);
        Due.line(x, 5, "call", 0, 0, 1);
        Due.line(x, 5, "gives", 2);
        Due.is("judge", x.judge(0), 2);
        Due.is("not by one that FAILED", x.killer(0, 1), 5);
        Due.is("nor PASSED by a MUTANT", x.killer(0, 0), 5);
        x.clear(5);
        Due.is("judge", x.judge(0), 0);
        Due.is("killer", x.killer(0, 0), -1);
        Due.line(x, 4, "sum", 1);
        Due.is("FAILED at the first LINE", x.judge(0), 0);
        Due.is("killer", x.killer(0, 0), -1);
    }

    private static void firstKiller() {
        LedgerTests x = contractOf(ADD, 0, 1);
        for (int test = 3; test < 6; test++) {
            Due.line(x, test, "call", 0, 0, 1);
            Due.line(x, test, "gives", 2);
        }
        int had = x.count(3);
        Due.is("judge", x.judge(0), 2);
        Due.is("the first one", x.killer(0, 0), 3);
        Due.is("no RUN behind the killer", x.count(3), had + 2 * (3 + 2));
    }

    private static void latestJudge() {
        LedgerTests x = contractOf(ADD, 0, 1);
        x.contract();
        Due.steps(x, 1, 0, SET, 0, 0);
        Due.is("no judge()", x.killer(0, 0), -2);
        Due.line(x, 0, "call", 0, 0, 1);
        Due.line(x, 0, "gives", 2);
        Due.is("judge", x.judge(0), 2);
        Due.is("no judge() of the other one", x.killer(1, 0), -2);
        Due.is("judge the other one", x.judge(1), 0);
        Due.is("the other one", x.killer(1, 0), -1);
        Due.steps(x, 0, 0, SET, 0, 0);
        Due.is("as it was", x.killer(0, 1), 0);
        Due.is("there was no such MUTANT", x.killer(0, 2), -2);
        x.clear(0);
        Due.is("as it was", x.killer(0, 1), 0);
        Due.is("judge again", x.judge(0), 0);
        Due.is("the latest", x.killer(0, 1), -1);
        Due.is("the latest", x.killer(0, 2), -1);
        Due.is("the latest", x.killer(0, 3), -2);
        Due.is("killer -1", x.killer(0, -1), -2);
    }

    private static void judgedIsAsAhead() {
        LedgerTests x = contractOf(ADD, 0, 1, NEED, 0, 2, UNLESS, 1, 3, PAY, 2, 0, EVENT, 0, 0);
        x.account(8, 50);
        Due.line(x, 0, "call", 0, 0, 1);
        Due.line(x, 0, "gives", 2);
        x.judge(0);
        Due.is("coins", x.coins(8), 50);
        Due.is("events", x.count(1), 0);
        Due.is("told of a RUN", x.told(0), 2);
        Due.is("call", x.call(0, 0, 0, 5, 0), 1);
        Due.is("answer", x.told(0), 6);
        Due.is("paid", x.coins(2), 6);
        Due.is("NEED", x.call(0, 0, 0, 0, 0), -20);
        Due.is("mutants", x.mutants(0), 8);
        Due.is("UNLESS passes", x.call(0, 0, 0, 1, 0), 1);
        Due.is("paid", x.coins(2), 6);
    }

    private static void judgeCounts() {
        LedgerTests x = contractOf(UNLESS, 1, 5, ADD, 0, 1);
        Due.line(x, 0, "call", 0, 0, 9);
        Due.is("judge", x.judge(0), 0);
        Due.is("MUTANTS cover, too", x.covered(0, 0), 0b11 | 1 << 8 | 1 << 16);
        Due.is("in all", x.count(3), 3 + 3 + 2 + 3 + 3);
    }

    private static void looksLike(LedgerTests x, int test, String what, int... cs) {
        for (int i = 0; i < cs.length; i++) {
            Due.is(what + ", line " + i, x.lineOf(test, i, 3), cs[i]);
        }
        Due.is(what + ", lines", x.count(4 + test), cs.length);
    }

    /** c numbers the LINES: no WORD but call and cell looks at it. */
    private static void shrinks() {
        LedgerTests x = contractOf(ADD, 0, 1, EVENT, 0, 0);
        Due.line(x, 3, "time", 1, 0, 90);
        Due.line(x, 3, "call", 0, 0, 5);
        Due.line(x, 3, "gives", 6, 0, 92);
        Due.line(x, 3, "by", 0, 0, 93);
        Due.line(x, 3, "event", 0, 7, 94);
        Due.line(x, 3, "sum", 3, 0, 95);
        Due.is("run", x.run(3), 4);
        Due.is("shrink", x.shrink(3), 1);
        looksLike(x, 3, "the failing LINE alone", 94);
        Due.is("its word", x.lineOf(3, 0, 0), 7);
        Due.is("its a", x.lineOf(3, 0, 1), 0);
        Due.is("its b", x.lineOf(3, 0, 2), 7);
        Due.is("it FAILS", x.run(3), 0);
        Due.is("shrink again", x.shrink(3), 1);
    }

    private static void shrinksAtThatLineAlone() {
        LedgerTests x = contractOf(NEED, 1, 5);
        Due.line(x, 0, "call", 0, 0, 4);
        Due.line(x, 0, "throws", 11, 11, 91);
        Due.line(x, 0, "sum", 0, 0, 92);
        Due.line(x, 0, "sum", 7, 0, 93);
        Due.line(x, 0, "sum", 7, 0, 94);
        // Without throws the call FAILS, without call the throws: so neither goes in the first round.
        Due.is("run", x.run(0), 3);
        Due.is("shrink", x.shrink(0), 3);
        looksLike(x, 0, "call and throws stay", 4, 91, 93);
        Due.is("run", x.run(0), 2);
        LedgerTests y = contractOf(SET, 0, 0);
        Due.line(y, 0, "call", 0, 0, 4);
        Due.line(y, 0, "gives", 9, 0, 91);
        Due.line(y, 0, "gives", 9, 0, 92);
        Due.is("shrink", y.shrink(0), 1);
        looksLike(y, 0, "the very LINE, not its like", 91);
    }

    private static void shrinksAgain() {
        // back goes in the first round; fork, which it had been in need of, goes in the second one.
        LedgerTests x = contractOf(ADD, 0, 1);
        Due.line(x, 1, "fork", 0, 0, 90);
        Due.line(x, 1, "back", 0, 0, 91);
        Due.line(x, 1, "sum", 5, 0, 92);
        Due.is("shrink", x.shrink(1), 1);
        looksLike(x, 1, "a second round", 92);
        LedgerTests y = contractOf(ADD, 0, 1);
        Due.line(y, 1, "call", 0, 0, 5);
        Due.line(y, 1, "gives", 6, 0, 91);
        Due.line(y, 1, "fork", 1, 0, 92);
        Due.line(y, 1, "back", 1, 0, 93);
        Due.line(y, 1, "steps", 0, 0, 94);
        Due.is("shrink", y.shrink(1), 1);
        looksLike(y, 1, "steps FAILS without a CALL, too", 94);
        LedgerTests z = contractOf(SET, 0, 0);
        Due.line(z, 2, "call", 0, 0, 5);
        Due.line(z, 2, "call", 0, 0, 6);
        Due.line(z, 2, "call", 0, 0, 5);
        Due.line(z, 2, "cell", 0, 0, 0);
        Due.is("run", z.run(2), 3);
        Due.is("shrink", z.shrink(2), 2);
        looksLike(z, 2, "from the first LINE on", 5, 0);
    }

    private static void shrinksNothing() {
        LedgerTests x = contractOf(ADD, 0, 1);
        Due.is("an empty one PASSES", x.shrink(0), -1);
        Due.line(x, 0, "sum", 0);
        Due.line(x, 0, "sum", 0);
        Due.is("it PASSES", x.shrink(0), -1);
        Due.is("its LINES stay", x.count(4), 2);
        Due.is("test 6", x.shrink(6), -2);
        Due.is("test -1", x.shrink(-1), -2);
        for (int i = 0; i < 15; i++) {
            Due.line(x, 5, "time", 1, 0, i);
        }
        Due.line(x, 5, "sum", 1, 0, 99);
        Due.is("sixteen LINES", x.shrink(5), 1);
        looksLike(x, 5, "sixteen LINES", 99);
        Due.is("height", x.count(0), 0);
    }

    private static void shrinkCounts() {
        LedgerTests x = contractOf(SET, 0, 0);
        Due.line(x, 0, "call", 0, 0, 5);
        Due.line(x, 0, "cell", 0, 0, 6);
        Due.line(x, 0, "call", 0, 0, 7);
        Due.is("shrink", x.shrink(0), 1);
        // At first 2; without the first call 0; without the cell 2; without the last call 0.
        Due.is("RUNS count", x.count(3), 4);
        LedgerTests y = contractOf(SET, 0, 0);
        Due.line(y, 0, "cell", 0, 0, 6);
        Due.line(y, 0, "call", 0, 0, 7);
        Due.is("shrink", y.shrink(0), 1);
        // Without the cell the call is come to: the only time.
        Due.is("the failing LINE is left out for once, too", y.count(3), 2);
        Due.is("RUNS cover", y.covered(0, 0), 1);
        LedgerTests z = contractOf(SET, 0, 0);
        Due.line(z, 0, "call", 0, 0, 5);
        Due.line(z, 0, "cell", 0, 0, 0);
        Due.is("shrink", z.shrink(0), 2);
        // At first 2; without the call 0; without the cell 2; none went, so there is no second round.
        Due.is("no round too many", z.count(3), 4);
        Due.is("told of the last RUN", z.told(0), 5);
    }
}
