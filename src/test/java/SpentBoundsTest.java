/**
 * The boundaries of THROW 7: 100 STEPS in a CALL from outside, 20000 STEPS and CALLS in all; and the
 * 512 calls that an object is used for.
 */
public final class SpentBoundsTest {
    private static final int SET = 0, ADD = 2, NEED = 4, EVENT = 6, ASK = 8, TRY = 9;
    private static final int SPENT = 7, ALL = 20000;

    private SpentBoundsTest() {
    }

    public static void main(String[] args) {
        hundredSteps();
        hundredStepsAreOfOneCall();
        hundredStepsInRuns();
        noTryHoldsIt();
        noAskMakesItFive();
        lastStepInAll();
        lastCallInAll();
        lastCallByAsk();
        callByAskBehindFour();
        callByAskBehindNone();
        doublesAreNoCalls();
        runsWhenSpent();
        judgeWhenSpent();
        shrinkWhenSpent();
        refusedWhenSpent();
        lastOf512Calls();
        Due.end();
    }

    /**
     * MEMBER 0 of CONTRACT 0 has three ASKS, each of 31 STEPS, and so many more: 96 STEPS and those.
     * An ASK adds 31, an ADD 1.
     */
    private static LedgerTests manySteps(int more) {
        LedgerTests x = Made.contracts(2);
        x.bind(0, 0, 1);
        x.bind(1, 0, 2);
        for (int i = 0; i < 8; i++) {
            Due.steps(x, 0, 2, ADD, 0, 1);
        }
        for (int i = 0; i < 3; i++) {
            Due.steps(x, 0, 1, ASK, 1, 0);
            Due.steps(x, 0, 0, ASK, 0, 0);
        }
        for (int i = 0; i < 4; i++) {
            Due.steps(x, 0, 1, ADD, 0, 1);
        }
        for (int i = 0; i < more; i++) {
            Due.steps(x, 0, 0, EVENT, 0, 0);
        }
        return x;
    }

    /** "THROW 7 ..: a STEP where 100 were in this CALL from outside" */
    private static void hundredSteps() {
        LedgerTests x = manySteps(4);
        Due.answers("the 100th STEP", x, 0, 84);
        Due.is("100", x.told(3), 100);
        Due.is("its EVENTS", x.count(1), 4);
        Due.is("COVERED", x.covered(0, 0), 127);
        Due.steps(x, 0, 0, EVENT, 0, 0);
        int had = x.count(3);
        Due.fails("the 101st STEP", x, 0, SPENT, SPENT);
        Due.is("it did not begin", x.told(3), 100);
        Due.is("it is not COVERED", x.covered(0, 0), 127);
        Due.is("it does not count", x.count(3), had + 100 + 13);
        Due.is("its EVENTS", x.count(1), 4);
    }

    /** "in this CALL from outside": the next one has 100 again, and CALLS do not count for it. */
    private static void hundredStepsAreOfOneCall() {
        LedgerTests x = manySteps(5);
        Due.fails("the 101st STEP", x, 0, SPENT, SPENT);
        Due.fails("and again", x, 0, SPENT, SPENT);
        Due.is("100", x.told(3), 100);
        Due.is("another MEMBER", x.call(0, 0, 1, 0, 0), 1);
        Due.is("31", x.told(3), 31);
        Due.is("a MEMBER without STEPS", x.call(0, 1, 0, 0, 0), 1);
        Due.is("0", x.told(3), 0);
    }

    /** "Of the latest CALL from outside (call(), or of a RUN)": each call of a RUN is one. */
    private static void hundredStepsInRuns() {
        LedgerTests x = manySteps(4);
        Due.runs("100 each", x, -1, "call 0 0 0", "steps 100", "call 0 0 0", "steps 100", "gives 84");
        Due.runs("not 99", x, 1, "call 0 0 0", "steps 99");
        Due.steps(x, 0, 0, EVENT, 0, 0);
        Due.runs("101", x, -1, "call 0 0 0", "throws 7 7", "steps 100", "sum 0");
    }

    /** "which no TRY holds" */
    private static void noTryHoldsIt() {
        LedgerTests x = manySteps(2);
        x.bind(2, 0, 0);
        Due.steps(x, 1, 0, TRY, 1, 0, ASK, 2, 0);
        Due.is("the 100th STEP", x.call(0, 1, 0, 0, 0), 1);
        Due.is("100", x.told(3), 100);
        Due.steps(x, 0, 0, EVENT, 0, 0);
        Due.is("the 101st STEP", x.call(0, 1, 0, 0, 0), -10 - SPENT);
        Due.is("no CAUSE", x.told(2), SPENT);
        Due.is("100", x.told(3), 100);
        // Behind a TRY that has held something, too.
        LedgerTests y = manySteps(0);
        Due.steps(y, 0, 0, TRY, 1, 0, NEED, 9, 500, TRY, 1, 0, ADD, 0, 1);
        Due.answers("the 100th STEP in a TRY", y, 0, 20);
        Due.is("100", y.told(3), 100);
        Due.steps(y, 0, 0, EVENT, 0, 0);
        Due.fails("the 101st STEP", y, 0, SPENT, SPENT);
        LedgerTests z = manySteps(3);
        Due.steps(z, 0, 0, TRY, 1, 0, ADD, 0, 1);
        Due.fails("the 101st STEP in a TRY", z, 0, SPENT, SPENT);
        Due.is("TRY was the 100th", z.covered(0, 0), 127);
    }

    /** "and which no ASK makes 5" */
    private static void noAskMakesItFive() {
        LedgerTests x = manySteps(3);
        x.bind(2, 0, 0);
        Due.steps(x, 1, 0, ASK, 2, 0);
        Due.is("the 100th STEP", x.call(0, 1, 0, 0, 0), 1);
        Due.steps(x, 0, 0, EVENT, 0, 0);
        Due.is("the 101st STEP", x.call(0, 1, 0, 0, 0), -10 - SPENT);
        Due.is("no CAUSE", x.told(2), SPENT);
        Due.is("its EVENTS are none", x.count(1), 3);
    }

    /** "a STEP .. where 20000 STEPS and CALLS were in all" */
    private static void lastStepInAll() {
        LedgerTests x = Made.nearlySpent(2);
        Due.steps(x, 1, 0, SET, 0, 0);
        Due.is("the last STEP", x.call(0, 1, 0, 4, 0), 1);
        Due.is("it was done", x.cell(1, 0), 4);
        Due.is("all", x.count(3), ALL);
        LedgerTests y = Made.nearlySpent(2);
        y.account(0, 9);
        Due.steps(y, 1, 0, SET, 0, 0, TRY, 1, 0, SET, 1, 0);
        Due.is("one STEP too many", y.call(0, 1, 0, 4, 9), -10 - SPENT);
        Due.is("one STEP", y.told(3), 1);
        Due.is("no CAUSE", y.told(2), SPENT);
        Due.is("all", y.count(3), ALL);
        Due.is("COVERED", y.covered(1, 0), 1);
        Due.is("no CELL", y.cell(1, 0), 0);
        Due.is("no coins", y.coins(0), 9);
        LedgerTests z = Made.nearlySpent(1);
        Due.steps(z, 1, 0, SET, 0, 0);
        Due.is("no STEP is left", z.call(0, 1, 0, 4, 0), -10 - SPENT);
        Due.is("no STEP", z.told(3), 0);
        Due.is("not COVERED", z.covered(1, 0), 0);
        Due.is("all", z.count(3), ALL);
    }

    /** "a CALL .. where 20000 STEPS and CALLS were in all" */
    private static void lastCallInAll() {
        LedgerTests x = Made.nearlySpent(1);
        x.account(0, 9);
        Due.is("the last CALL", x.call(0, 1, 0, 4, 3), 1);
        Due.is("its VALUE", x.told(0), 4);
        Due.is("its coins", x.coins(9), 3);
        Due.is("all", x.count(3), ALL);
        Due.is("one CALL too many", x.call(0, 1, 0, 4, 3), -10 - SPENT);
        Due.is("told 0", x.told(0), 0);
        Due.is("told 1", x.told(1), SPENT);
        Due.is("told 2", x.told(2), SPENT);
        Due.is("told 3", x.told(3), 0);
        Due.is("no coins", x.coins(9), 3);
        Due.is("no more", x.count(3), ALL);
        Due.is("more coins than it has: no CALL, no PAY", x.call(0, 1, 0, 4, 10), -10 - SPENT);
    }

    /** "(also one by ASK ..)" */
    private static void lastCallByAsk() {
        LedgerTests x = Made.nearlySpent(3);
        x.bind(1, 1, 1);
        Due.steps(x, 1, 0, ASK, 1, 0);
        Due.is("the last CALL by ASK", x.call(0, 1, 0, 4, 0), 1);
        Due.is("all", x.count(3), ALL);
        for (int tries = 0; tries <= 1; tries++) {
            LedgerTests y = Made.nearlySpent(2 + tries);
            y.bind(1, 1, 1);
            for (int i = 0; i < tries; i++) {
                Due.steps(y, 1, 0, TRY, 1, 0);
            }
            Due.steps(y, 1, 0, ASK, 1, 0);
            Due.is("one CALL by ASK too many, not 5", y.call(0, 1, 0, 4, 0), -10 - SPENT);
            Due.is("no CAUSE", y.told(2), SPENT);
            Due.is("the ASK began", y.told(3), 1 + tries);
            Due.is("all", y.count(3), ALL);
        }
    }

    /** "(.. behind 4)": THROW 4 where both are due. */
    private static void callByAskBehindFour() {
        LedgerTests x = Made.nearlySpent(8);
        x.bind(1, 1, 0);
        Due.steps(x, 1, 0, ASK, 1, 0);
        Due.is("four CALLS and ASKS", x.call(0, 1, 0, 4, 0), -15);
        Due.is("4", x.told(2), 4);
        Due.is("all", x.count(3), ALL);
        LedgerTests y = Made.nearlySpent(7);
        y.bind(1, 1, 0);
        Due.steps(y, 1, 0, ASK, 1, 0);
        Due.is("the fourth ASK cannot begin", y.call(0, 1, 0, 4, 0), -10 - SPENT);
        Due.is("three STEPS", y.told(3), 3);
        LedgerTests z = Made.nearlySpent(6);
        z.bind(1, 1, 0);
        Due.steps(z, 1, 0, ASK, 1, 0);
        Due.is("the fourth CALL cannot begin", z.call(0, 1, 0, 4, 0), -10 - SPENT);
        Due.is("three STEPS", z.told(3), 3);
    }

    /** THROW 3 is ahead of 4, so 7 is behind it, too. */
    private static void callByAskBehindNone() {
        LedgerTests x = Made.nearlySpent(2);
        Due.steps(x, 1, 0, ASK, 1, 0);
        Due.is("none", x.call(0, 1, 0, 4, 0), -15);
        Due.is("3", x.told(2), 3);
        LedgerTests y = Made.nearlySpent(3);
        Due.steps(y, 1, 0, TRY, 1, 0, ASK, 1, 0);
        Due.is("none, held", y.call(0, 1, 0, 4, 0), 1);
        Due.is("5", y.told(0), 5);
        Due.is("all", y.count(3), ALL);
    }

    /** "FACE a answers b in this RUN .. (no CALL, no STEP)": where no CALL is left, too. */
    private static void doublesAreNoCalls() {
        LedgerTests x = Made.nearlySpent(2);
        x.bind(1, 1, 1);
        Due.steps(x, 1, 0, ASK, 1, 0);
        Due.runs("a double", x, -1, "face 1 44", "call 1 0 0", "gives 44", "steps 1");
        Due.is("all", x.count(3), ALL);
        LedgerTests y = Made.nearlySpent(2);
        y.bind(1, 1, 1);
        Due.steps(y, 1, 0, ASK, 1, 0);
        Due.runs("a double that THROWS", y, -1, "fails 1 3", "call 1 0 0", "throws 5 23");
        Due.is("all", y.count(3), ALL);
    }

    /** A RUN's CALLS are no others. */
    private static void runsWhenSpent() {
        LedgerTests x = Made.nearlySpent(2);
        Due.runs("the third CALL", x, 2, "call 1 0 0", "call 1 0 0", "call 1 0 0", "call 1 0 0");
        Due.runs("THROW 7 is told", x, -1, "call 1 0 0", "throws 7 7", "steps 0", "sum 0", "time 5", "fork 0", "back 0");
        Due.is("no more", x.count(3), ALL);
        Due.is("HEIGHT as ahead", x.count(0), 0);
    }

    /** JUDGED: a TEST that FAILS by THROW 7 has noticed the MUTANT; one that FAILED at first has not. */
    private static void judgeWhenSpent() {
        LedgerTests x = Made.nearlySpent(4);
        x.clear(0);
        Due.steps(x, 1, 0, SET, 0, 0, SET, 1, 0);
        Due.lines(x, 0, "call 2 0 0");
        Due.is("two CALLS are left for MUTANT 0, one for MUTANT 1", x.judge(1), 0);
        Due.is("three CALLS", x.count(3), ALL - 1);
        Due.is("the first RUN alone", x.judge(1), 2);
        Due.is("MUTANT 0", x.killer(1, 0), 0);
        Due.is("MUTANT 1", x.killer(1, 1), 0);
        Due.is("all", x.count(3), ALL);
        Due.is("not even that", x.judge(1), 0);
        Due.is("MUTANT 0", x.killer(1, 0), -1);
    }

    /** SHRUNK: "at the very LINE": without a CALL a later one may find room, or none. */
    private static void shrinkWhenSpent() {
        LedgerTests x = Made.nearlySpent(0);
        Due.is("the first CALL FAILS, the others go", x.shrink(0), 1);
        Due.is("call", x.lineOf(0, 0, 0), 1);
        Due.is("it FAILS", x.run(0), 0);
        Due.is("no more", x.count(3), ALL);
    }

    /** What is BAD is so where all is spent, too. */
    private static void refusedWhenSpent() {
        LedgerTests x = Made.nearlySpent(0);
        Due.is("coins -1", x.call(0, 1, 0, 4, -1), -1);
        Due.is("no ACCOUNT", x.call(12, 1, 0, 4, 0), -1);
        Due.is("no MEMBER", x.call(0, 1, 3, 4, 0), -1);
        Due.is("no CONTRACT", x.call(0, 3, 0, 4, 0), -1);
        Due.is("told as ahead", x.told(1), 0);
        Due.runs("no MEMBER", x, 0, "call 1 3 0", "throws 7 7");
    }

    /** "An object is used for at most 512 calls": the last one is as any other. */
    private static void lastOf512Calls() {
        LedgerTests x = new LedgerTests();
        for (int i = 1; i <= 511; i++) {
            Due.is("time", x.time(1000), 1000 * i);
        }
        Due.is("the 512th call", x.count(0), 511000);
        LedgerTests y = new LedgerTests();
        y.contract();
        for (int i = 2; i <= 511; i++) {
            Due.is("call", y.call(0, 0, 0, i, 0), 1);
        }
        Due.is("the 512th call", y.told(0), 511);
    }
}
