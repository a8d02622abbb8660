import java.util.function.Consumer;

/** Objects that the tests begin with. */
final class Made {
    private static final int SET = 0, GET = 1, ADD = 2, LESS = 3, NEED = 4, PAY = 5, EVENT = 6;
    private static final int UNLESS = 7, ASK = 8, TRY = 9, AGE = 10, PART = 11;

    private Made() {
    }

    static LedgerTests by(Consumer<LedgerTests> calls) {
        LedgerTests x = new LedgerTests();
        calls.accept(x);
        return x;
    }

    static LedgerTests contracts(int n) {
        LedgerTests x = new LedgerTests();
        for (int i = 0; i < n; i++) {
            Due.is("contract", x.contract(), i);
        }
        return x;
    }

    /** CONTRACT 0, whose MEMBER 0 is made of these STEPS, each as kind, a, b. */
    static LedgerTests of(int... steps) {
        LedgerTests x = contracts(1);
        Due.steps(x, 0, 0, steps);
        return x;
    }

    /**
     * Three CONTRACTS and so many STEPS and CALLS that only a few are left; CONTRACTS 1 and 2 have
     * no STEPS, FACES 1 to 3 are bound to none, TEST 0 is full of CALLS.
     */
    static LedgerTests nearlySpent(int left) {
        LedgerTests x = contracts(3);
        x.bind(0, 0, 1);
        for (int i = 0; i < 8; i++) {
            Due.steps(x, 0, 0, ASK, 0, 0);
            Due.steps(x, 0, 1, ADD, 0, 1);
        }
        for (int i = 0; i < 16; i++) {
            Due.line(x, 0, "call", 0, 0, 0);
        }
        int each = 1 + 8 + 8 * 9;
        for (int i = 0; i < 20000 / (16 * each); i++) {
            Due.is("run", x.run(0), -1);
        }
        while (x.count(3) + left + each < 20000) {
            Due.is("a CALL of many STEPS", x.call(0, 0, 0, 0, 0), 1);
        }
        while (x.count(3) + left < 20000) {
            Due.is("a CALL of nothing", x.call(0, 2, 2, 0, 0), 1);
        }
        Due.is("nearly spent", x.count(3), 20000 - left);
        return x;
    }

    /**
     * Something of everything: coins, cells, events, a height, bound and unbound FACES, every kind
     * of STEP, TESTS that pass, that fail, that are full and that are empty, a judge().
     */
    static Consumer<LedgerTests> rich(int contracts) {
        return x -> {
            int[] coins = {100, 0, 3, 0, 40, 0, 0, 1, 30, 20, 999999995, 7};
            for (int a = 0; a < coins.length; a++) {
                x.account(a, coins[a]);
            }
            for (int c = 0; c < contracts; c++) {
                x.contract();
            }
            richSteps(x);
            x.bind(0, 0, 0);
            x.bind(2, 1, 0);
            x.bind(3, 0, 2);
            x.time(7);
            richLines(x);
            x.judge(0);
            x.call(4, 1, 1, 9, 1);
            x.call(0, 0, 0, 6, 2);
        };
    }

    private static void richSteps(LedgerTests x) {
        Due.steps(x, 0, 0, NEED, 2, 5, SET, 1, 0, ADD, 0, 3, EVENT, 0, 0);
        Due.steps(x, 0, 1, UNLESS, 1, 4, PAY, 3, 0, GET, 1, 0);
        Due.steps(x, 0, 2, TRY, 1, 0, ASK, 2, 0, ADD, 0, -1);
        Due.steps(x, 1, 0, AGE, 0, 0, LESS, 0, 0, SET, 0, 0);
        Due.steps(x, 1, 1, ASK, 0, 0, EVENT, 0, 0, TRY, 2, 0, PART, 3, 0);
        for (int i = 0; i < 8; i++) {
            Due.steps(x, 1, 2, ADD, 0, i);
        }
    }

    private static void richLines(LedgerTests x) {
        Due.lines(x, 0, "by 0 3", "call 0 0 7", "gives 10", "event 0 10", "coins 8 33");
        Due.lines(x, 1, "fork 1", "call 0 1 5", "coins 3 5", "back 1", "coins 3 0", "sum 1000000196");
        Due.lines(x, 2, "time 3", "call 1 0 0", "call 0 0 1", "throws 12 12", "cell 1 0 10", "steps 0");
        for (int i = 0; i < 16; i++) {
            Due.lines(x, 3, "time " + i);
        }
        Due.lines(x, 5, "face 2 4", "call 0 2 1", "gives 3", "fails 2 5", "call 0 2 1", "gives 4");
    }
}
