import java.util.ArrayList;
import java.util.List;
import java.util.Random;

/** Random runs of at most 512 calls: each answer must be the one that the Model gives. */
public final class ModelTest {
    /** LOOKS: so many calls are kept for looking at all, and for the last LINES ahead of that. */
    private static final int RUNS = 6000, CALLS = 512, LOOKS = 70;
    private static final String[] WORDS = {
        "by", "call", "gives", "throws", "steps", "coins", "cell", "event", "sum", "time", "fork",
        "back", "face", "fails",
    };
    private static final int[] WILD = {
        Integer.MIN_VALUE, -1000000, -2, -1, 0, 1, 2, 3, 4, 5, 6, 7, 8, 9, 10, 11, 12, 15, 16, 17, 39,
        40, 99, 1000, 1001, 999999999, 1000000000, 1000000001, Integer.MAX_VALUE,
    };

    private final Random random;
    private final LedgerTests x = new LedgerTests();
    private final Model model = new Model();
    private final List<String> told = new ArrayList<>();
    private boolean same = true;

    private ModelTest(long seed) {
        random = new Random(seed);
    }

    public static void main(String[] args) {
        int spent = 0;
        for (int seed = 0; seed < RUNS; seed++) {
            ModelTest one = new ModelTest(seed);
            one.wholeRun(seed);
            spent += one.model.count(3) == 20000 ? 1 : 0;
            Due.is("run " + seed, one.same ? 0 : 1, 0);
            if (!one.same) {
                one.told.forEach(System.out::println);
                break;
            }
        }
        Due.is("some runs use up all STEPS", spent > 0 ? 1 : 0, 1);
        Due.end();
    }

    private void wholeRun(int seed) {
        if (seed % 10 == 0) {
            while (same && told.size() < CALLS) {
                wildCall();
            }
            return;
        }
        contracts();
        while (same && told.size() < CALLS - LOOKS) {
            tameCall();
        }
        lookAtAll();
    }

    private void due(String call, int got, int want) {
        told.add(call + " answered " + got + (got == want ? "" : ", due is " + want));
        same = same && got == want;
    }

    private int below(int n) {
        return random.nextInt(n);
    }

    private int wild() {
        return WILD[below(WILD.length)];
    }

    /** Mostly a number below n, now and then any. */
    private int about(int n) {
        return below(60) == 0 ? wild() : below(n);
    }

    private int small() {
        return below(30) == 0 ? wild() : below(16) - 3;
    }

    private void contracts() {
        int contracts = 1 + below(4);
        for (int c = 0; c < contracts; c++) {
            contract();
        }
        for (int i = 0; i < 6; i++) {
            account(below(12), below(5) == 0 ? 999999990 + below(10) : below(60));
        }
        int steps = 5 + below(50);
        for (int i = 0; i < steps; i++) {
            someStep(contracts);
        }
        for (int i = 0; i < 5; i++) {
            bind(below(4), below(contracts), below(3));
        }
    }

    private void someStep(int contracts) {
        int kind = below(5) == 0 ? 8 : below(6) == 0 ? 9 : below(12);
        int most = new int[] {4, 4, 4, 4, 10, 12, 4, 5, 4, 6, 4, 4}[kind];
        int least = kind == 7 || kind == 9 ? 1 : 0;
        step(about(contracts), about(3), kind, below(60) == 0 ? wild() : least + below(most), small());
    }

    private void tameCall() {
        int contracts = model.count(2);
        switch (below(24)) {
            case 0: account(about(12), below(9) == 0 ? wild() : below(50)); break;
            case 1: time(below(9) == 0 ? wild() : below(4)); break;
            case 2: someStep(contracts); break;
            case 3: bind(about(4), below(contracts + 1) - 1, about(3)); break;
            case 4: case 5: case 6: call(about(12), about(contracts), about(3), small(), about(3)); break;
            case 7: toldOf(about(4)); break;
            case 8: case 9: case 10: case 11: case 12: case 13: case 14: goodLines(below(6), contracts); break;
            case 15: line(about(6), Due.word(WORDS[below(14)]), small(), small(), small()); break;
            case 16: run(about(6)); break;
            case 17: if (below(3) == 0) { clear(about(6)); } break;
            case 18: if (below(4) == 0) { judge(about(contracts)); } break;
            case 19: killer(about(contracts), about(20)); break;
            case 20: if (below(3) == 0) { shrink(about(6)); } break;
            case 21: mutant(about(contracts), about(30), about(3)); break;
            case 22: count(about(11)); break;
            default: covered(about(contracts), about(3)); break;
        }
    }

    /** LINES that are mostly AS TOLD: what they look at is what the RUN of those ahead came to. */
    private void goodLines(int test, int contracts) {
        int at = model.count(4 + test);
        String word = WORDS[below(14)];
        if (at == 0 || below(3) == 0) {
            word = "call";
        }
        run(test);
        Model.Ledger behind = model.behindLastRun;
        int near = below(12) == 0 ? 1 : 0;
        int a = below(12);
        int b = below(4);
        switch (word) {
            case "by": line(test, Due.word(word), a, below(3) - near, 0); break;
            case "call": callLine(test, contracts); break;
            case "gives": line(test, Due.word(word), model.told(0) + near, 0, 0); break;
            case "throws": line(test, Due.word(word), model.told(1) + near, model.told(2), 0); break;
            case "steps": line(test, Due.word(word), model.told(3) - near, 0, 0); break;
            case "coins": line(test, Due.word(word), a, behind.coins[a] + near, 0); break;
            case "cell": line(test, Due.word(word), a % contracts, b, behind.cells[a % contracts][b] + near); break;
            case "event": eventLine(test, b, near); break;
            case "sum":
                long sum = 0;
                for (int coins : behind.coins) {
                    sum += coins;
                }
                line(test, Due.word(word), (int) sum + near, 0, 0);
                break;
            case "time": line(test, Due.word(word), near == 1 ? wild() : below(5), 0, 0); break;
            case "face": line(test, Due.word(word), b, below(20), 0); break;
            case "fails": line(test, Due.word(word), b, below(6 + near), 0); break;
            default: line(test, Due.word(word), below(3 + near), 0, 0); break;
        }
    }

    private void callLine(int test, int contracts) {
        int at = model.count(4 + test);
        line(test, Due.word("call"), below(contracts), below(3), small());
        if (run(test) == at && at < 16) {
            line(test, Due.word("throws"), model.told(1), model.told(2), 0);
        }
    }

    private void eventLine(int test, int i, int near) {
        List<Integer> events = model.behindLastRun.events;
        int at = model.eventsAheadOfLastRun + i;
        int value = at < events.size() ? events.get(at) : 0;
        line(test, Due.word("event"), i, value + near, 0);
    }

    private void wildCall() {
        switch (below(24)) {
            case 0: account(wild(), wild()); break;
            case 1: contract(); break;
            case 2: case 3: step(wild(), wild(), wild(), wild(), wild()); break;
            case 4: bind(wild(), wild(), wild()); break;
            case 5: time(wild()); break;
            case 6: call(wild(), wild(), wild(), wild(), wild()); break;
            case 7: toldOf(wild()); break;
            case 8: line(wild(), wild(), wild(), wild(), wild()); break;
            case 9: line(wild(), Due.word(WORDS[below(14)]), wild(), wild(), wild()); break;
            case 10: clear(wild()); break;
            case 11: run(wild()); break;
            case 12: mutants(wild()); break;
            case 13: mutant(wild(), wild(), wild()); break;
            case 14: judge(wild()); break;
            case 15: killer(wild(), wild()); break;
            case 16: shrink(wild()); break;
            case 17: lineOf(wild(), wild(), wild()); break;
            case 18: covered(wild(), wild()); break;
            case 19: coins(wild()); break;
            case 20: cell(wild(), wild()); break;
            case 21: event(wild()); break;
            case 22: step(below(4), below(3), below(12), below(8), wild()); break;
            default: count(wild()); break;
        }
    }

    private void lookAtAll() {
        for (int a = 0; a < 12; a++) {
            coins(a);
        }
        for (int c = 0; c < 4; c++) {
            cell(c, below(4));
            covered(c, 0);
            covered(c, 1);
            covered(c, 2);
            killer(c, below(20));
        }
        for (int what = 0; what < 11; what++) {
            count(what);
        }
        for (int i = 0; i < 10; i++) {
            event(below(40));
            lineOf(below(6), below(16), below(4));
        }
    }

    private void account(int a, int coins) {
        due("account(" + a + ", " + coins + ")", x.account(a, coins), model.account(a, coins));
    }

    private void contract() {
        due("contract()", x.contract(), model.contract());
    }

    private void step(int c, int m, int kind, int a, int b) {
        due("step(" + c + ", " + m + ", " + kind + ", " + a + ", " + b + ")", x.step(c, m, kind, a, b), model.step(c, m, kind, a, b));
    }

    private void bind(int face, int c, int m) {
        due("bind(" + face + ", " + c + ", " + m + ")", x.bind(face, c, m), model.bind(face, c, m));
    }

    private void time(int n) {
        due("time(" + n + ")", x.time(n), model.time(n));
    }

    private void call(int a, int c, int m, int argument, int coins) {
        due("call(" + a + ", " + c + ", " + m + ", " + argument + ", " + coins + ")",
            x.call(a, c, m, argument, coins), model.call(a, c, m, argument, coins));
    }

    private void toldOf(int what) {
        due("told(" + what + ")", x.told(what), model.told(what));
    }

    private void line(int test, long word, int a, int b, int c) {
        due("line(" + test + ", " + word + ", " + a + ", " + b + ", " + c + ")", x.line(test, word, a, b, c), model.line(test, word, a, b, c));
    }

    private void clear(int test) {
        due("clear(" + test + ")", x.clear(test), model.clear(test));
    }

    private int run(int test) {
        int want = model.run(test);
        due("run(" + test + ")", x.run(test), want);
        return want;
    }

    private void mutants(int c) {
        due("mutants(" + c + ")", x.mutants(c), model.mutants(c));
    }

    private void mutant(int c, int i, int what) {
        due("mutant(" + c + ", " + i + ", " + what + ")", x.mutant(c, i, what), model.mutant(c, i, what));
    }

    private void judge(int c) {
        due("judge(" + c + ")", x.judge(c), model.judge(c));
    }

    private void killer(int c, int i) {
        due("killer(" + c + ", " + i + ")", x.killer(c, i), model.killer(c, i));
    }

    private void shrink(int test) {
        due("shrink(" + test + ")", x.shrink(test), model.shrink(test));
    }

    private void lineOf(int test, int i, int what) {
        due("lineOf(" + test + ", " + i + ", " + what + ")", x.lineOf(test, i, what), model.lineOf(test, i, what));
    }

    private void covered(int c, int m) {
        due("covered(" + c + ", " + m + ")", x.covered(c, m), model.covered(c, m));
    }

    private void coins(int a) {
        due("coins(" + a + ")", x.coins(a), model.coins(a));
    }

    private void cell(int c, int i) {
        due("cell(" + c + ", " + i + ")", x.cell(c, i), model.cell(c, i));
    }

    private void event(int i) {
        due("event(" + i + ")", x.event(i), model.event(i));
    }

    private void count(int what) {
        due("count(" + what + ")", x.count(what), model.count(what));
    }
}
