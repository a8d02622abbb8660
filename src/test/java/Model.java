import java.util.ArrayList;
import java.util.Arrays;
import java.util.HashMap;
import java.util.List;
import java.util.Map;

/**
 * The document written down a second time, as plainly as the whole of Java allows: THROWS are
 * exceptions, THE STATE is copied whole, MUTANTS are other STEPS, a TEST is a list of LINES.
 */
final class Model {
    private static final int MOST = 1000000000;
    private static final List<String> WORDS = List.of("by", "call", "gives", "throws", "steps",
        "coins", "cell", "event", "sum", "time", "fork", "back", "face", "fails");
    private static final int[][] BOUNDS = {
        {0, 3}, {0, 3}, null, {0, 3}, {0, 9}, {0, 11}, null, {1, 7}, {0, 3}, {1, 7}, null, {0, 3},
    };

    static final class Thrown extends RuntimeException {
        private static final long serialVersionUID = 1L;
        final int number;
        final Thrown under;

        Thrown(int number, Thrown under) {
            super(null, null, false, false);
            this.number = number;
            this.under = under;
        }

        int last() {
            return under == null ? number : under.last();
        }
    }

    static final class Ledger {
        int[] coins = new int[12];
        int[][] cells = new int[4][4];
        int height = 0;
        List<Integer> events = new ArrayList<>();

        Ledger copy() {
            Ledger other = new Ledger();
            other.coins = coins.clone();
            for (int c = 0; c < 4; c++) {
                other.cells[c] = cells[c].clone();
            }
            other.height = height;
            other.events = new ArrayList<>(events);
            return other;
        }
    }

    record Step(int kind, int a, int b, String mutated) {
    }

    record Mutant(int member, int at, int second, Step step) {
    }

    static final class Line {
        final String word;
        final int a;
        final int b;
        final int c;

        Line(String word, int a, int b, int c) {
            this.word = word;
            this.a = a;
            this.b = b;
            this.c = c;
        }
    }

    /** What a CALL from outside came to. */
    record Outcome(boolean answered, int value, int number, int last, int steps) {
    }

    private interface Double {
        int ask();
    }

    Ledger ledger = new Ledger();
    Ledger behindLastRun = new Ledger();
    int eventsAheadOfLastRun = 0;
    private final List<List<List<Step>>> contracts = new ArrayList<>();
    private final Map<List<Integer>, Integer> covered = new HashMap<>();
    private final int[][] bound = new int[4][];
    private final Map<Integer, Double> doubles = new HashMap<>();
    private final List<List<Line>> tests = new ArrayList<>();
    private final Map<Integer, List<Integer>> killers = new HashMap<>();
    private Outcome latest = null;
    private int inAll = 0;
    private int steps = 0;

    Model() {
        for (int i = 0; i < 6; i++) {
            tests.add(new ArrayList<>());
        }
    }

    private static boolean in(int n, int low, int high) {
        return low <= n && n <= high;
    }

    private boolean member(int contract, int member) {
        return in(contract, 0, contracts.size() - 1) && in(member, 0, 2);
    }

    int account(int a, int coins) {
        if (!in(a, 0, 11) || !in(coins, 0, MOST)) {
            return -1;
        }
        ledger.coins[a] = coins;
        return 1;
    }

    int contract() {
        if (contracts.size() == 4) {
            return -2;
        }
        contracts.add(List.of(new ArrayList<>(), new ArrayList<>(), new ArrayList<>()));
        return contracts.size() - 1;
    }

    int step(int contract, int member, int kind, int a, int b) {
        if (!member(contract, member) || !in(kind, 0, 11)
                || BOUNDS[kind] != null && !in(a, BOUNDS[kind][0], BOUNDS[kind][1])) {
            return -1;
        }
        List<Step> row = contracts.get(contract).get(member);
        if (row.size() == 8) {
            return -2;
        }
        row.add(new Step(kind, a, b, ""));
        return row.size();
    }

    int bind(int face, int contract, int member) {
        if (!in(face, 0, 3)) {
            return -1;
        }
        if (contract == -1) {
            bound[face] = null;
            return 1;
        }
        if (!member(contract, member)) {
            return -1;
        }
        bound[face] = new int[] {contract, member};
        return 1;
    }

    int time(int n) {
        if (!in(n, 0, 1000)) {
            return -1;
        }
        ledger.height += n;
        return ledger.height;
    }

    int call(int account, int contract, int member, int argument, int coins) {
        if (!in(account, 0, 11) || !member(contract, member) || coins < 0) {
            return -1;
        }
        outside(account, contract, member, argument, coins);
        return latest.answered ? 1 : -10 - latest.number;
    }

    private void outside(int account, int contract, int member, int argument, int coins) {
        steps = 0;
        try {
            int value = work(account, contract, member, argument, coins, 0);
            latest = new Outcome(true, value, 0, 0, steps);
        } catch (Thrown thrown) {
            latest = new Outcome(false, 0, thrown.number, thrown.last(), steps);
        }
    }

    private void pay(int from, int to, int n) {
        if (n < 0 || n > ledger.coins[from]) {
            throw new Thrown(1, null);
        }
        if (from != to && (long) ledger.coins[to] + n > MOST) {
            throw new Thrown(2, null);
        }
        ledger.coins[from] -= n;
        ledger.coins[to] += n;
    }

    private int work(int by, int contract, int member, int argument, int coins, int atWork) {
        if (inAll == 20000) {
            throw new Thrown(7, null);
        }
        inAll++;
        Ledger ahead = ledger.copy();
        try {
            pay(by, 8 + contract, coins);
            int size = contracts.get(contract).get(member).size();
            return doSteps(contract, member, 0, size, argument, atWork + 1);
        } catch (Thrown thrown) {
            ledger = ahead;
            throw thrown;
        }
    }

    private int doSteps(int contract, int member, int first, int end, int value, int atWork) {
        for (int at = first; at < end; at++) {
            if (steps == 100 || inAll == 20000) {
                throw new Thrown(7, null);
            }
            steps++;
            inAll++;
            cover(contract, member, at);
            Step step = contracts.get(contract).get(member).get(at);
            int next = Math.min(end, at + 1 + step.a);
            if (step.mutated.equals("nothing")) {
                continue;
            }
            if (step.kind == 7) {
                boolean passes = value < step.b != step.mutated.equals("turned");
                cover(contract, member, at + (passes ? 8 : 16));
                at = passes ? next - 1 : at;
            } else if (step.kind == 9) {
                Ledger ahead = ledger.copy();
                try {
                    value = doSteps(contract, member, at + 1, next, value, atWork);
                } catch (Thrown thrown) {
                    if (thrown.number == 7) {
                        throw thrown;
                    }
                    ledger = ahead;
                    value = thrown.number;
                }
                at = next - 1;
            } else {
                value = plain(contract, step, value, atWork);
            }
        }
        return value;
    }

    private int plain(int contract, Step step, int value, int atWork) {
        int[] cells = ledger.cells[contract];
        switch (step.kind) {
            case 0:
                cells[step.a] = value;
                return value;
            case 1:
                return cells[step.a];
            case 2:
                return value + step.b;
            case 3:
                return value - cells[step.a];
            case 4:
                if (value < step.b) {
                    throw new Thrown(10 + step.a, null);
                }
                return value;
            case 5:
                pay(8 + contract, step.a, value);
                return value;
            case 6:
                if (ledger.events.size() < 40) {
                    ledger.events.add(value);
                }
                return value;
            case 8:
                return ask(contract, step.a, value, atWork);
            case 10:
                return ledger.height;
            case 11:
                if (cells[step.a] == 0) {
                    throw new Thrown(6, null);
                }
                return value / cells[step.a];
            default:
                throw new IllegalStateException("kind " + step.kind);
        }
    }

    private int ask(int contract, int face, int value, int atWork) {
        try {
            if (doubles.containsKey(face)) {
                return doubles.get(face).ask();
            }
            if (bound[face] == null) {
                throw new Thrown(3, null);
            }
            if (atWork == 4) {
                throw new Thrown(4, null);
            }
            return work(8 + contract, bound[face][0], bound[face][1], value, 0, atWork);
        } catch (Thrown thrown) {
            throw thrown.number == 7 ? thrown : new Thrown(5, thrown);
        }
    }

    private void cover(int contract, int member, int bit) {
        covered.merge(List.of(contract, member), 1 << bit, (x, y) -> x | y);
    }

    int told(int what) {
        if (latest == null || !in(what, 0, 3)) {
            return 0;
        }
        return new int[] {latest.value, latest.number, latest.last, latest.steps}[what];
    }

    private static String wordOf(long word) {
        StringBuilder letters = new StringBuilder();
        for (long left = word; left != 0; left >>>= 8) {
            letters.insert(0, (char) (left & 255));
        }
        return letters.toString();
    }

    int line(int test, long word, int a, int b, int c) {
        if (!in(test, 0, 5) || !WORDS.contains(wordOf(word))) {
            return -1;
        }
        if (tests.get(test).size() == 16) {
            return -2;
        }
        tests.get(test).add(new Line(wordOf(word), a, b, c));
        return tests.get(test).size();
    }

    int clear(int test) {
        if (!in(test, 0, 5)) {
            return -1;
        }
        int had = tests.get(test).size();
        tests.get(test).clear();
        return had;
    }

    int run(int test) {
        if (!in(test, 0, 5)) {
            return -2;
        }
        List<Line> lines = tests.get(test);
        Line failing = failing(lines);
        return failing == null ? -1 : lines.indexOf(failing);
    }

    private Line failing(List<Line> lines) {
        Ledger ahead = ledger.copy();
        eventsAheadOfLastRun = ahead.events.size();
        Line failing = firstNotAsTold(lines, ahead.events.size());
        behindLastRun = ledger;
        ledger = ahead;
        doubles.clear();
        return failing;
    }

    private Line firstNotAsTold(List<Line> lines, int eventsAhead) {
        Map<Integer, Ledger> forks = new HashMap<>();
        int by = 0;
        int with = 0;
        Outcome last = null;
        for (int i = 0; i < lines.size(); i++) {
            Line line = lines.get(i);
            boolean asTold = true;
            switch (line.word) {
                case "by":
                    asTold = in(line.a, 0, 11) && line.b >= 0;
                    by = line.a;
                    with = line.b;
                    break;
                case "call":
                    asTold = member(line.a, line.b);
                    if (asTold) {
                        outside(by, line.a, line.b, line.c, with);
                        last = latest;
                        asTold = last.answered
                            || i + 1 < lines.size() && lines.get(i + 1).word.equals("throws");
                    }
                    break;
                case "fork":
                    asTold = in(line.a, 0, 2);
                    forks.put(line.a, ledger.copy());
                    break;
                case "back":
                    asTold = forks.containsKey(line.a);
                    ledger = asTold ? forks.get(line.a).copy() : ledger;
                    break;
                default:
                    asTold = plainLine(line, last, eventsAhead);
                    break;
            }
            if (!asTold) {
                return line;
            }
        }
        return null;
    }

    private boolean plainLine(Line line, Outcome last, int eventsAhead) {
        int a = line.a;
        int b = line.b;
        switch (line.word) {
            case "gives":
                return last != null && last.answered && last.value == a;
            case "throws":
                return last != null && !last.answered && last.number == a && last.last == b;
            case "steps":
                return last != null && last.steps <= a;
            case "coins":
                return in(a, 0, 11) && ledger.coins[a] == b;
            case "cell":
                return in(a, 0, contracts.size() - 1) && in(b, 0, 3) && ledger.cells[a][b] == line.c;
            case "event":
                return in(a, 0, 39) && eventsAhead + a < ledger.events.size()
                    && ledger.events.get(eventsAhead + a) == b;
            case "sum":
                return Arrays.stream(ledger.coins).asLongStream().sum() == a;
            case "time":
                return time(a) >= 0;
            case "face":
                doubles.put(a, () -> b);
                return in(a, 0, 3);
            case "fails":
                doubles.put(a, () -> {
                    throw new Thrown(20 + b, null);
                });
                return in(a, 0, 3) && in(b, 0, 5);
            default:
                throw new IllegalStateException(line.word);
        }
    }

    private List<Mutant> mutantsOf(int contract) {
        List<Mutant> all = new ArrayList<>();
        for (int member = 0; member < 3; member++) {
            List<Step> row = contracts.get(contract).get(member);
            for (int at = 0; at < row.size(); at++) {
                List<Step> altered = altered(row.get(at));
                for (int i = 0; i < altered.size(); i++) {
                    all.add(new Mutant(member, at, i, altered.get(i)));
                }
            }
        }
        return all;
    }

    private static List<Step> altered(Step step) {
        int kind = step.kind;
        int a = step.a;
        int b = step.b;
        switch (kind) {
            case 2: return List.of(new Step(kind, a, b + 1, ""), new Step(kind, a, -b, ""));
            case 4: return List.of(new Step(kind, a, b + 1, ""), new Step(kind, a, b, "nothing"));
            case 5: return List.of(new Step(kind, a == 11 ? 0 : a + 1, b, ""));
            case 7: return List.of(new Step(kind, a + 1, b, ""), new Step(kind, a, b, "turned"));
            default: return List.of(new Step(kind, a, b, "nothing"));
        }
    }

    int mutants(int contract) {
        return in(contract, 0, contracts.size() - 1) ? mutantsOf(contract).size() : -1;
    }

    int mutant(int contract, int i, int what) {
        if (!in(i, 0, mutants(contract) - 1) || !in(what, 0, 2)) {
            return -1;
        }
        Mutant mutant = mutantsOf(contract).get(i);
        return new int[] {mutant.member, mutant.at, mutant.second}[what];
    }

    int judge(int contract) {
        if (!in(contract, 0, contracts.size() - 1)) {
            return -1;
        }
        List<Integer> passed = new ArrayList<>();
        for (int test = 0; test < 6; test++) {
            if (run(test) == -1) {
                passed.add(test);
            }
        }
        List<Integer> by = new ArrayList<>();
        for (Mutant mutant : mutantsOf(contract)) {
            List<Step> row = contracts.get(contract).get(mutant.member);
            Step whole = row.set(mutant.at, mutant.step);
            int killer = -1;
            for (int i = 0; i < passed.size() && killer < 0; i++) {
                killer = run(passed.get(i)) == -1 ? -1 : passed.get(i);
            }
            row.set(mutant.at, whole);
            by.add(killer);
        }
        killers.put(contract, by);
        return (int) by.stream().filter(test -> test >= 0).count();
    }

    int killer(int contract, int i) {
        List<Integer> by = killers.getOrDefault(contract, List.of());
        return in(i, 0, by.size() - 1) ? by.get(i) : -2;
    }

    int shrink(int test) {
        if (!in(test, 0, 5)) {
            return -2;
        }
        List<Line> lines = tests.get(test);
        Line atFirst = failing(lines);
        if (atFirst == null) {
            return -1;
        }
        boolean went = true;
        while (went) {
            went = false;
            for (Line line : List.copyOf(lines)) {
                List<Line> without = new ArrayList<>(lines);
                without.remove(line);
                if (failing(without) == atFirst) {
                    lines.remove(line);
                    went = true;
                }
            }
        }
        return lines.size();
    }

    int lineOf(int test, int i, int what) {
        if (!in(test, 0, 5) || !in(i, 0, tests.get(test).size() - 1) || !in(what, 0, 3)) {
            return 0;
        }
        Line line = tests.get(test).get(i);
        return new int[] {WORDS.indexOf(line.word), line.a, line.b, line.c}[what];
    }

    int covered(int contract, int member) {
        return member(contract, member) ? covered.getOrDefault(List.of(contract, member), 0) : -1;
    }

    int coins(int a) {
        return in(a, 0, 11) ? ledger.coins[a] : -1;
    }

    int cell(int contract, int i) {
        return member(contract, 0) && in(i, 0, 3) ? ledger.cells[contract][i] : 0;
    }

    int event(int i) {
        return in(i, 0, ledger.events.size() - 1) ? ledger.events.get(i) : 0;
    }

    int count(int what) {
        switch (what) {
            case 0: return ledger.height;
            case 1: return ledger.events.size();
            case 2: return contracts.size();
            case 3: return inAll;
            case 10: return (int) Arrays.stream(bound).filter(face -> face != null).count();
            default: return in(what, 4, 9) ? tests.get(what - 4).size() : -1;
        }
    }
}
