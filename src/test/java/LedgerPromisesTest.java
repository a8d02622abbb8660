/** Promises 1 to 8 and 18 to 22: the ledger, CALLS and what is told of them. */
public final class LedgerPromisesTest {
    private static final int SET = 0, GET = 1, ADD = 2, LESS = 3, NEED = 4, PAY = 5, EVENT = 6;
    private static final int UNLESS = 7, ASK = 8, TRY = 9, AGE = 10, PART = 11;
    private static final int MOST = 1000000000;

    private LedgerPromisesTest() {
    }

    public static void main(String[] args) {
        newObject();
        accounts();
        contracts();
        cellsAndCoinsAreApart();
        stepBounds();
        binds();
        time();
        wrongCalls();
        paysAtTheCall();
        plainSteps();
        paySteps();
        paysEachAccount();
        needs();
        unless();
        tries();
        tryWithin();
        asks();
        asksTooDeep();
        triesInEachCall();
        hundredSteps();
        twentyThousand();
        twentyThousandByAsk();
        events();
        toldOfTheLatest();
        coverage();
        Due.end();
    }

    /** A CALL by ACCOUNT 0 without coins of MEMBER 0 of CONTRACT 0 that is made of these STEPS. */
    private static void answers(String what, int argument, int want, int... steps) {
        LedgerTests x = Made.contracts(1);
        Due.steps(x, 0, 0, steps);
        Due.is(what, x.call(0, 0, 0, argument, 0), 1);
        Due.is(what + ", told(0)", x.told(0), want);
    }

    private static void newObject() {
        LedgerTests x = new LedgerTests();
        Due.is("BAD", LedgerTests.BAD, -1);
        Due.is("FULL", LedgerTests.FULL, -2);
        for (int what = 0; what <= 10; what++) {
            Due.is("new count " + what, x.count(what), 0);
        }
        for (int a = 0; a < 12; a++) {
            Due.is("new coins " + a, x.coins(a), 0);
        }
        for (int what = -1; what < 5; what++) {
            Due.is("new told " + what, x.told(what), 0);
        }
        for (int test = 0; test < 6; test++) {
            Due.is("new run " + test, x.run(test), -1);
        }
        Due.is("new mutants", x.mutants(0), -1);
        Due.is("new killer", x.killer(0, 0), -2);
        Due.is("new covered", x.covered(0, 0), -1);
        Due.is("new call", x.call(0, 0, 0, 0, 0), -1);
        Due.is("count -1", x.count(-1), -1);
        Due.is("count 11", x.count(11), -1);
        Due.is("count least", x.count(Integer.MIN_VALUE), -1);
        Due.is("count most", x.count(Integer.MAX_VALUE), -1);
    }

    private static void accounts() {
        LedgerTests x = new LedgerTests();
        Due.is("account", x.account(11, MOST), 1);
        Due.is("coins", x.coins(11), MOST);
        Due.is("account over", x.account(11, MOST + 1), -1);
        Due.is("account below 0", x.account(11, -1), -1);
        Due.is("coins stay", x.coins(11), MOST);
        Due.is("account 12", x.account(12, 1), -1);
        Due.is("account -1", x.account(-1, 1), -1);
        Due.is("account again", x.account(11, 0), 1);
        Due.is("coins again", x.coins(11), 0);
        Due.is("coins -1", x.coins(-1), -1);
        Due.is("coins 12", x.coins(12), -1);
    }

    private static void contracts() {
        LedgerTests x = Made.contracts(4);
        Due.is("fifth contract", x.contract(), -2);
        Due.is("count 2", x.count(2), 4);
        Due.steps(x, 3, 2, SET, 3, 0);
        x.call(0, 3, 2, 77, 0);
        Due.is("cell", x.cell(3, 3), 77);
        Due.is("other cell", x.cell(3, 2), 0);
        Due.is("cell of another", x.cell(2, 3), 0);
        Due.is("cell 4", x.cell(2, 7), 0);
        Due.is("cell -1", x.cell(3, -1), 0);
        Due.is("cell of none", x.cell(4, -1), 0);
    }

    private static void cellsAndCoinsAreApart() {
        LedgerTests x = Made.contracts(4);
        for (int i = 0; i < 16; i++) {
            int member = i % 4 / 2;
            Due.steps(x, i / 4, member, ADD, 0, 1, SET, i % 4, 0, EVENT, 0, 0);
            x.account(i % 12, 500 + i % 12);
        }
        x.time(9);
        for (int i = 0; i < 8; i++) {
            x.call(0, i / 2, i % 2, 100 * i, 0);
        }
        for (int i = 0; i < 16; i++) {
            int due = 100 * (i / 2) + 1 + i % 2;
            Due.is("cell " + i, x.cell(i / 4, i % 4), due);
            Due.is("event " + i, x.event(i), due);
        }
        for (int a = 0; a < 12; a++) {
            Due.is("coins " + a, x.coins(a), 500 + a);
        }
        Due.is("height", x.count(0), 9);
        Due.is("events", x.count(1), 16);
    }

    private static void stepBounds() {
        LedgerTests x = Made.contracts(2);
        int[][] bounds = {
            {SET, 0, 3}, {GET, 0, 3}, {LESS, 0, 3}, {PART, 0, 3}, {NEED, 0, 9}, {PAY, 0, 11},
            {UNLESS, 1, 7}, {TRY, 1, 7}, {ASK, 0, 3},
        };
        for (int[] bound : bounds) {
            LedgerTests y = Made.contracts(1);
            Due.is("too low, kind " + bound[0], y.step(0, 0, bound[0], bound[1] - 1, 0), -1);
            Due.is("too high, kind " + bound[0], y.step(0, 0, bound[0], bound[2] + 1, 0), -1);
            Due.is("lowest, kind " + bound[0], y.step(0, 0, bound[0], bound[1], 0), 1);
            Due.is("highest, kind " + bound[0], y.step(0, 0, bound[0], bound[2], 0), 2);
        }
        for (int kind : new int[] {ADD, EVENT, AGE}) {
            Due.is("any a, kind " + kind, x.step(1, 0, kind, Integer.MIN_VALUE, -1) > 0 ? 1 : 0, 1);
        }
        Due.is("kind 12", x.step(0, 0, 12, 0, 0), -1);
        Due.is("kind 13", x.step(0, 0, 13, 1, 0), -1);
        Due.is("kind -1", x.step(0, 0, -1, 0, 0), -1);
        Due.is("member 3", x.step(0, 3, ADD, 0, 0), -1);
        Due.is("member -1", x.step(1, -1, ADD, 0, 0), -1);
        Due.is("contract 2", x.step(2, 0, ADD, 0, 0), -1);
        Due.is("contract -1", x.step(-1, 0, ADD, 0, 0), -1);
        for (int i = 1; i <= 8; i++) {
            Due.is("step " + i, x.step(0, 2, ADD, 0, 1), i);
        }
        Due.is("ninth step", x.step(0, 2, ADD, 0, 1), -2);
        Due.is("ninth step, wrong", x.step(0, 2, SET, 4, 1), -1);
        Due.is("eight steps", x.call(0, 0, 2, 0, 0), 1);
        Due.is("eight steps, answer", x.told(0), 8);
        Due.is("its neighbour", x.step(1, 1, ADD, 0, 1), 1);
    }

    private static void binds() {
        LedgerTests x = Made.contracts(2);
        Due.is("bind", x.bind(3, 1, 2), 1);
        Due.is("bind", x.bind(0, 0, 0), 1);
        Due.is("bound", x.count(10), 2);
        Due.is("bind again", x.bind(3, 0, 2), 1);
        Due.is("bound", x.count(10), 2);
        Due.is("bind to none", x.bind(3, -1, 99), 1);
        Due.is("bound", x.count(10), 1);
        Due.is("face 4", x.bind(4, -1, 0), -1);
        Due.is("face -1", x.bind(-1, 0, 0), -1);
        Due.is("no contract", x.bind(0, 2, 0), -1);
        Due.is("contract -2", x.bind(0, -2, 0), -1);
        Due.is("member 3", x.bind(0, 0, 3), -1);
        Due.is("member -1", x.bind(0, 0, -1), -1);
        Due.is("bound", x.count(10), 1);
    }

    private static void time() {
        LedgerTests x = new LedgerTests();
        Due.is("time", x.time(1000), 1000);
        Due.is("time", x.time(0), 1000);
        Due.is("time", x.time(7), 1007);
        Due.is("time 1001", x.time(1001), -1);
        Due.is("time -1", x.time(-1), -1);
        Due.is("height", x.count(0), 1007);
    }

    private static void wrongCalls() {
        LedgerTests x = Made.contracts(1);
        Due.steps(x, 0, 0, ADD, 0, 5);
        x.call(0, 0, 0, 1, 0);
        Due.is("no account", x.call(12, 0, 0, 0, 0), -1);
        Due.is("account -1", x.call(-1, 0, 0, 0, 0), -1);
        Due.is("no contract", x.call(0, 1, 0, 0, 0), -1);
        Due.is("contract -1", x.call(0, -1, 0, 0, 0), -1);
        Due.is("no member", x.call(0, 0, 3, 0, 0), -1);
        Due.is("member -1", x.call(0, 0, -1, 0, 0), -1);
        Due.is("coins -1", x.call(0, 0, 0, 0, -1), -1);
        Due.is("nothing changes", x.told(0), 6);
        Due.is("nothing counts", x.count(3), 2);
    }

    private static void paysAtTheCall() {
        LedgerTests x = Made.contracts(1);
        x.account(0, 10);
        Due.is("all coins", x.call(0, 0, 0, 3, 10), 1);
        Due.is("from", x.coins(0), 0);
        Due.is("to", x.coins(8), 10);
        Due.is("one too many", x.call(0, 0, 0, 3, 1), -11);
        Due.is("told 1", x.told(1), 1);
        Due.is("told 2", x.told(2), 1);
        Due.is("a CALL counts ahead of its coins", x.count(3), 2);
        x.account(8, MOST - 1);
        x.account(1, 5);
        Due.is("too many there", x.call(1, 0, 0, 3, 2), -12);
        Due.is("stay", x.coins(1), 5);
        Due.is("to the brim", x.call(1, 0, 0, 3, 1), 1);
        Due.is("brim", x.coins(8), MOST);
        Due.is("by itself", x.call(8, 0, 0, 3, MOST), 1);
        Due.is("stay", x.coins(8), MOST);
        x.account(8, 4);
        Due.is("by itself, too many", x.call(8, 0, 0, 3, 5), -11);
    }

    private static void plainSteps() {
        answers("no steps", 5, 5);
        answers("SET leaves VALUE", 5, 5, SET, 1, 0);
        answers("GET", 5, 0, GET, 1, 0);
        answers("SET, GET", 5, 5, SET, 1, 0, ADD, 0, 9, GET, 1, 0);
        answers("another CELL", 5, 0, SET, 1, 0, GET, 0, 0);
        answers("ADD", 5, 2, ADD, 0, -3);
        answers("ADD wraps", Integer.MAX_VALUE, Integer.MIN_VALUE, ADD, 0, 1);
        answers("LESS", 5, -4, SET, 2, 0, ADD, 0, -4, LESS, 2, 0);
        answers("LESS wraps", 1, Integer.MAX_VALUE, SET, 0, 0, ADD, 0, Integer.MIN_VALUE, LESS, 0, 0, ADD, 0, -1);
        answers("PART", 3, 4, SET, 0, 0, ADD, 0, 11, PART, 0, 0);
        answers("PART is cut", 3, -2, SET, 0, 0, ADD, 0, -11, PART, 0, 0);
        answers("PART of the least", -1, Integer.MIN_VALUE, SET, 0, 0, ADD, 0, Integer.MIN_VALUE, ADD, 0, 1, PART, 0, 0);
        LedgerTests x = Made.contracts(1);
        Due.steps(x, 0, 0, EVENT, 0, 0, PART, 3, 0);
        Due.steps(x, 0, 1, AGE, 0, 0);
        Due.is("PART by 0", x.call(0, 0, 0, 7, 0), -16);
        Due.is("changed nothing", x.count(1), 0);
        x.time(12);
        Due.is("AGE", x.call(0, 0, 1, 7, 0), 1);
        Due.is("AGE", x.told(0), 12);
    }

    private static void paysEachAccount() {
        for (int a = 0; a < 12; a++) {
            LedgerTests x = Made.contracts(4);
            x.account(9, 50);
            Due.steps(x, 1, 0, PAY, a, 0);
            Due.is("PAY to " + a, x.call(0, 1, 0, 20, 0), 1);
            Due.is("coins " + a, x.coins(a), a == 9 ? 50 : 20);
            Due.is("coins 9", x.coins(9), a == 9 ? 50 : 30);
        }
    }

    private static void paySteps() {
        LedgerTests x = Made.contracts(2);
        x.account(8, 20);
        Due.steps(x, 0, 0, PAY, 3, 0, ADD, 0, 1);
        Due.steps(x, 0, 1, PAY, 8, 0);
        Due.is("PAY", x.call(0, 0, 0, 15, 0), 1);
        Due.is("PAY leaves VALUE", x.told(0), 16);
        Due.is("from", x.coins(8), 5);
        Due.is("to", x.coins(3), 15);
        Due.is("with the coins of the CALL", x.call(3, 0, 0, 9, 4), 1);
        Due.is("to", x.coins(3), 20);
        Due.is("too many", x.call(3, 0, 0, 7, 6), -11);
        Due.is("nothing went", x.coins(3), 20);
        Due.is("below 0", x.call(0, 0, 0, -1, 0), -11);
        x.account(3, MOST);
        x.account(8, 20);
        Due.is("too many there", x.call(0, 0, 0, 1, 0), -12);
        Due.is("no coins go there", x.call(0, 0, 0, 0, 0), 1);
        x.account(8, MOST);
        Due.is("to itself", x.call(0, 0, 1, MOST, 0), 1);
        Due.is("to itself, stay", x.coins(8), MOST);
        Due.is("to itself, below 0", x.call(0, 0, 1, -1, 0), -11);
    }

    private static void needs() {
        LedgerTests x = Made.contracts(1);
        x.account(0, 50);
        Due.steps(x, 0, 0, SET, 1, 0, EVENT, 0, 0, NEED, 9, 5, ADD, 0, 1);
        Due.is("NEED", x.call(0, 0, 0, 5, 0), 1);
        Due.is("NEED", x.told(0), 6);
        Due.is("not NEED", x.call(0, 0, 0, 4, 20), -29);
        Due.is("told 0", x.told(0), 0);
        Due.is("told 1", x.told(1), 19);
        Due.is("told 2", x.told(2), 19);
        Due.is("told 3", x.told(3), 3);
        Due.is("cell as ahead", x.cell(0, 1), 5);
        Due.is("events as ahead", x.count(1), 1);
        Due.is("coins as ahead", x.coins(0), 50);
        Due.is("coins as ahead", x.coins(8), 0);
    }

    private static void unless() {
        answers("UNLESS at b", 5, 8, UNLESS, 2, 5, ADD, 0, 1, ADD, 0, 2);
        answers("UNLESS below", 4, 4, UNLESS, 2, 5, ADD, 0, 1, ADD, 0, 2);
        answers("UNLESS, one", 4, 6, UNLESS, 1, 5, ADD, 0, 1, ADD, 0, 2);
        answers("UNLESS over the end", 4, 4, UNLESS, 7, 5, ADD, 0, 1);
        answers("UNLESS over a TRY", 4, 5, UNLESS, 1, 5, TRY, 7, 0, ADD, 0, 1);
    }

    private static void tries() {
        LedgerTests x = Made.contracts(1);
        x.account(8, 9);
        Due.steps(x, 0, 0, SET, 0, 0, TRY, 4, 0, SET, 1, 0, EVENT, 0, 0, PAY, 2, 0, NEED, 3, 8, SET, 2, 0);
        Due.is("held", x.call(0, 0, 0, 7, 0), 1);
        Due.is("VALUE is the number", x.told(0), 13);
        Due.is("told 1", x.told(1), 0);
        Due.is("told 2", x.told(2), 0);
        Due.is("ahead of TRY", x.cell(0, 0), 7);
        Due.is("in TRY", x.cell(0, 1), 0);
        Due.is("behind TRY", x.cell(0, 2), 13);
        Due.is("events", x.count(1), 0);
        Due.is("coins", x.coins(2), 0);
        Due.is("steps", x.told(3), 7);
        Due.is("nothing to hold", x.call(0, 0, 0, 9, 0), 1);
        Due.is("in TRY", x.cell(0, 1), 9);
        Due.is("behind TRY", x.cell(0, 2), 9);
        Due.is("coins", x.coins(2), 9);
    }

    private static void tryWithin() {
        answers("TRY goes on behind its own", 1, 10, TRY, 2, 0, NEED, 0, 5, ADD, 0, 100);
        answers("TRY goes on behind its own", 1, 11, TRY, 1, 0, NEED, 0, 5, ADD, 0, 1);
        answers("TRY at the end", 1, 1, TRY, 7, 0);
        answers("TRY within TRY ends with it", 1, 15, TRY, 2, 0, TRY, 7, 0, NEED, 0, 5, ADD, 0, 5);
        answers("the outer TRY holds what is behind the inner one", 1, 11,
            TRY, 3, 0, TRY, 1, 0, NEED, 0, 5, NEED, 1, 50);
        answers("UNLESS within TRY ends with it", 1, 6, TRY, 2, 0, UNLESS, 7, 5, ADD, 0, 9, ADD, 0, 5);
        answers("a passed TRY holds nothing, the next one does", 1, 12,
            UNLESS, 1, 5, TRY, 7, 0, TRY, 1, 0, NEED, 2, 5);
        LedgerTests y = Made.contracts(1);
        Due.steps(y, 0, 0, TRY, 5, 0, SET, 0, 0, TRY, 1, 0, SET, 1, 0, EVENT, 0, 0, NEED, 3, 50);
        Due.is("the outer TRY goes back", y.call(0, 0, 0, 7, 0), 1);
        Due.is("ahead of the inner TRY", y.cell(0, 0), 0);
        Due.is("in the inner TRY", y.cell(0, 1), 0);
        Due.is("behind the inner TRY", y.count(1), 0);
        LedgerTests x = Made.contracts(1);
        Due.steps(x, 0, 0, TRY, 1, 0, ADD, 0, 1, NEED, 4, 50);
        Due.is("a THROW behind a TRY", x.call(0, 0, 0, 1, 0), -24);
        Due.steps(x, 0, 1, TRY, 7, 0, TRY, 6, 0, TRY, 5, 0, TRY, 4, 0, TRY, 3, 0, TRY, 2, 0, TRY, 1, 0, NEED, 8, 50);
        Due.is("seven TRIES", x.call(0, 0, 1, 1, 0), 1);
        Due.is("seven TRIES", x.told(0), 18);
    }

    private static void asks() {
        LedgerTests x = Made.contracts(2);
        x.account(0, 5);
        x.account(8, 5);
        Due.steps(x, 0, 0, ASK, 1, 0, ADD, 0, 100);
        Due.steps(x, 0, 1, TRY, 1, 0, ASK, 1, 0, SET, 0, 0);
        Due.is("bound to none", x.call(0, 0, 0, 1, 3), -15);
        Due.is("cause 3", x.told(2), 3);
        Due.is("steps", x.told(3), 1);
        Due.is("coins", x.coins(0), 5);
        x.bind(1, 1, 2);
        Due.steps(x, 1, 2, SET, 3, 0, NEED, 6, 10, ADD, 0, 1);
        Due.is("asked", x.call(0, 0, 0, 10, 3), 1);
        Due.is("answer", x.told(0), 111);
        Due.is("steps of both", x.told(3), 5);
        Due.is("cell of the other", x.cell(1, 3), 10);
        Due.is("no coins went on", x.coins(9), 0);
        Due.is("coins of the first", x.coins(8), 8);
        Due.is("asked, throws", x.call(0, 0, 0, 9, 0), -15);
        Due.is("number", x.told(1), 5);
        Due.is("cause", x.told(2), 16);
        Due.is("cell as ahead", x.cell(1, 3), 10);
        Due.is("held", x.call(0, 0, 1, 9, 0), 1);
        Due.is("held as 5", x.cell(0, 0), 5);
        Due.is("cell as ahead", x.cell(1, 3), 10);
        Due.is("no cause is left", x.told(2), 0);
        Due.is("STEPS and CALLS in all", x.count(3), 2 + 7 + 5 + 7);
    }

    private static void asksTooDeep() {
        LedgerTests x = Made.contracts(1);
        x.bind(0, 0, 0);
        Due.steps(x, 0, 0, EVENT, 0, 0, ADD, 0, 1, UNLESS, 1, 5, ASK, 0, 0);
        Due.is("four CALLS", x.call(0, 0, 0, 5, 0), -15);
        Due.is("cause 4", x.told(2), 4);
        Due.is("steps", x.told(3), 16);
        Due.is("in all", x.count(3), 20);
        LedgerTests y = Made.contracts(4);
        for (int c = 0; c < 4; c++) {
            y.bind(c, c, 0);
        }
        Due.steps(y, 0, 0, ASK, 1, 0);
        Due.steps(y, 1, 0, ASK, 2, 0);
        Due.steps(y, 2, 0, TRY, 1, 0, ASK, 3, 0);
        Due.steps(y, 3, 0, ADD, 0, 1);
        Due.is("four are fine", y.call(0, 0, 0, 5, 0), 1);
        Due.is("four are fine", y.told(0), 6);
        Due.steps(y, 3, 0, ASK, 3, 0);
        Due.is("the fifth is held", y.call(0, 0, 0, 5, 0), 1);
        Due.is("the fifth is held as 5", y.told(0), 5);
        y.bind(3, -1, 0);
        y.bind(0, 3, 0);
        Due.steps(y, 3, 1, ASK, 3, 0);
        y.bind(2, 3, 1);
        Due.is("none ahead of too deep", y.call(0, 0, 0, 5, 0), -15);
        Due.is("none ahead of too deep", y.told(2), 3);
    }

    /** As many TRIES and CALLS as can be at work at once. */
    private static void triesInEachCall() {
        LedgerTests x = Made.contracts(2);
        Due.steps(x, 0, 0, TRY, 7, 0, TRY, 7, 0, TRY, 7, 0, TRY, 7, 0, TRY, 7, 0, TRY, 7, 0, TRY, 7, 0, ASK, 0, 0);
        x.bind(0, 0, 0);
        Due.is("too deep is held at once", x.call(0, 0, 0, 9, 0), 1);
        Due.is("held as 5", x.told(0), 5);
        Due.is("steps", x.told(3), 32);
        Due.steps(x, 1, 0, SET, 0, 0, TRY, 6, 0, SET, 1, 0, TRY, 4, 0, SET, 2, 0, TRY, 2, 0, SET, 3, 0, ASK, 1, 0);
        x.bind(1, 1, 1);
        Due.steps(x, 1, 1, ADD, 0, 1, SET, 0, 0, ASK, 2, 0, NEED, 0, 100);
        x.bind(2, 1, 2);
        Due.steps(x, 1, 2, ADD, 0, 1, SET, 1, 0, TRY, 2, 0, SET, 2, 0, NEED, 0, 100, SET, 3, 0);
        Due.is("held in between", x.call(0, 1, 0, 9, 0), 1);
        Due.is("held as 5", x.told(0), 5);
        for (int i = 0; i < 3; i++) {
            Due.is("ahead of the last TRY " + i, x.cell(1, i), 9);
        }
        Due.is("in the last TRY", x.cell(1, 3), 0);
    }

    private static void hundredSteps() {
        LedgerTests x = Made.contracts(2);
        x.bind(0, 0, 1);
        x.bind(1, 1, 0);
        for (int i = 0; i < 8; i++) {
            Due.steps(x, 0, 0, ASK, 0, 0);
            Due.steps(x, 1, 0, ADD, 0, 1);
        }
        Due.steps(x, 0, 1, EVENT, 0, 0, TRY, 1, 0, ASK, 1, 0);
        Due.is("8 + 8 * 11 are 96", x.call(0, 0, 0, 0, 0), 1);
        Due.is("steps", x.told(3), 96);
        Due.is("answer", x.told(0), 64);
        Due.is("events", x.count(1), 8);
        Due.steps(x, 0, 1, ADD, 0, 0);
        Due.is("104 are too many", x.call(0, 0, 0, 0, 0), -17);
        Due.is("told 1", x.told(1), 7);
        Due.is("no cause", x.told(2), 7);
        Due.is("steps", x.told(3), 100);
        Due.is("events as ahead", x.count(1), 8);
        Due.is("the next CALL begins anew", x.call(0, 0, 1, 0, 0), 1);
        LedgerTests y = Made.contracts(1);
        y.bind(0, 0, 1);
        for (int i = 0; i < 7; i++) {
            Due.steps(y, 0, 0, ASK, 0, 0);
        }
        for (int i = 0; i < 8; i++) {
            Due.steps(y, 0, 1, ADD, 0, 1);
        }
        Due.steps(y, 0, 2, TRY, 7, 0, ASK, 1, 0, ASK, 2, 0);
        y.bind(1, 0, 0);
        y.bind(2, 0, 0);
        Due.is("no TRY holds 7", y.call(0, 0, 2, 0, 0), -17);
        Due.is("no ASK makes it 5", y.told(2), 7);
    }

    private static void twentyThousand() {
        LedgerTests x = Made.nearlySpent(3);
        x.account(0, 5);
        Due.steps(x, 1, 0, SET, 0, 0, TRY, 2, 0, EVENT, 0, 0, SET, 1, 0);
        Due.is("spent at a STEP", x.call(0, 1, 0, 4, 5), -17);
        Due.is("steps", x.told(3), 2);
        Due.is("no more", x.count(3), 20000);
        Due.is("not covered", x.covered(1, 0), 3);
        Due.is("cell as ahead", x.cell(1, 0), 0);
        Due.is("coins as ahead", x.coins(0), 5);
        Due.is("spent ahead of the CALL", x.call(0, 1, 0, 4, 6), -17);
        Due.is("steps", x.told(3), 0);
        Due.is("no more", x.count(3), 20000);
        Due.is("a RUN ends so, too", x.run(0), 0);
    }

    private static void twentyThousandByAsk() {
        LedgerTests x = Made.nearlySpent(3);
        Due.steps(x, 1, 0, TRY, 1, 0, ASK, 1, 0);
        x.bind(1, 1, 1);
        Due.is("spent at an ASK", x.call(0, 1, 0, 4, 0), -17);
        Due.is("no cause", x.told(2), 7);
        LedgerTests y = Made.nearlySpent(3);
        Due.steps(y, 1, 0, TRY, 1, 0, ASK, 1, 0);
        Due.is("none ahead of spent", y.call(0, 1, 0, 4, 0), 1);
        Due.is("none ahead of spent", y.told(0), 5);
        LedgerTests z = Made.nearlySpent(8);
        Due.steps(z, 1, 0, ASK, 1, 0);
        z.bind(1, 1, 0);
        Due.is("too deep ahead of spent", z.call(0, 1, 0, 4, 0), -15);
        Due.is("too deep ahead of spent", z.told(2), 4);
        Due.is("all are spent", z.count(3), 20000);
    }

    private static void events() {
        LedgerTests x = Made.contracts(1);
        for (int i = 0; i < 4; i++) {
            Due.steps(x, 0, 0, EVENT, 0, 0, ADD, 0, 1);
        }
        for (int i = 0; i < 12; i++) {
            x.call(0, 0, 0, 10 * i, 0);
        }
        Due.is("40 EVENTS", x.count(1), 40);
        Due.is("event 0", x.event(0), 0);
        Due.is("event 5", x.event(5), 11);
        Due.is("event 39", x.event(39), 93);
        Due.is("event 40", x.event(40), 0);
        Due.is("event -1", x.event(-1), 0);
        Due.is("lost without a THROW", x.told(1), 0);
    }

    private static void toldOfTheLatest() {
        LedgerTests x = Made.contracts(1);
        Due.steps(x, 0, 0, NEED, 1, 5);
        Due.line(x, 0, "call", 0, 0, 8);
        x.call(0, 0, 0, 2, 0);
        Due.is("told 1", x.told(1), 11);
        Due.is("run", x.run(0), -1);
        Due.is("told 0 of a RUN", x.told(0), 8);
        Due.is("told 1 of a RUN", x.told(1), 0);
        Due.is("told 3 of a RUN", x.told(3), 1);
        Due.is("told 4", x.told(4), 0);
        Due.is("told -1", x.told(-1), 0);
    }

    private static void coverage() {
        LedgerTests x = Made.contracts(1);
        Due.steps(x, 0, 1, ADD, 0, 0, UNLESS, 1, 5, NEED, 0, 7, TRY, 1, 0, EVENT, 0, 0);
        Due.is("covered", x.covered(0, 1), 0);
        x.call(0, 0, 1, 6, 0);
        Due.is("not passed", x.covered(0, 1), 0b111 | 1 << 17);
        x.call(0, 0, 1, 4, 0);
        Due.is("passed", x.covered(0, 1), 0b11111 | 1 << 17 | 1 << 9);
        Due.is("another", x.covered(0, 0), 0);
        Due.is("none such", x.covered(0, 3), -1);
        Due.is("none such", x.covered(1, 0), -1);
        Due.is("none such", x.covered(0, -1), -1);
        LedgerTests y = Made.contracts(1);
        Due.steps(y, 0, 0, UNLESS, 3, 5);
        y.call(0, 0, 0, 4, 0);
        Due.is("passed over the end", y.covered(0, 0), 1 | 1 << 8);
    }
}
