import java.util.ArrayList;
import java.util.List;
import java.util.function.Consumer;
import java.util.function.ToIntFunction;

/**
 * All that the face shows of an object which some calls have made: what it answers to every look
 * and, as STEPS, LINES and what FACES are bound to show in nothing else, to CALLS, RUNS, judge() and
 * shrink(). Every part has an object of its own, so that none is used for more than 512 calls.
 */
final class Sight {
    private static final int[] ARGUMENTS = {-3, 0, 4, 9};

    private final Consumer<LedgerTests> calls;
    private final List<Integer> seen = new ArrayList<>();

    private Sight(Consumer<LedgerTests> calls) {
        this.calls = calls;
    }

    static List<Integer> of(Consumer<LedgerTests> calls) {
        Sight sight = new Sight(calls);
        sight.looks(Made.by(calls));
        sight.lines(Made.by(calls), 0, 3);
        sight.lines(Made.by(calls), 3, 6);
        for (int contract = 0; contract < 4; contract++) {
            sight.killers(Made.by(calls), contract);
            sight.outside(Made.by(calls), contract);
        }
        sight.judges();
        sight.runs(Made.by(calls));
        sight.shrinks(Made.by(calls));
        return sight.seen;
    }

    /** The call answers this and changes nothing that can be seen. */
    static void refused(String what, int want, Consumer<LedgerTests> ahead, ToIntFunction<LedgerTests> call) {
        Due.is(what, call.applyAsInt(Made.by(ahead)), want);
        List<Integer> with = of(ahead.andThen(x -> call.applyAsInt(x)));
        Due.is(what + ", nothing changes", with.equals(of(ahead)) ? 1 : 0, 1);
    }

    private void looks(LedgerTests x) {
        for (int what = 0; what < 4; what++) {
            seen.add(x.told(what));
        }
        for (int what = 0; what < 11; what++) {
            seen.add(x.count(what));
        }
        for (int a = 0; a < 12; a++) {
            seen.add(x.coins(a));
        }
        for (int i = 0; i < 40; i++) {
            seen.add(x.event(i));
        }
        for (int contract = 0; contract < 4; contract++) {
            for (int i = 0; i < 4; i++) {
                seen.add(x.cell(contract, i));
            }
            for (int member = 0; member < 3; member++) {
                seen.add(x.covered(contract, member));
            }
        }
    }

    private void lines(LedgerTests x, int from, int end) {
        for (int test = from; test < end; test++) {
            for (int i = 0; i < 16; i++) {
                for (int what = 0; what < 4; what++) {
                    seen.add(x.lineOf(test, i, what));
                }
            }
        }
    }

    private void killers(LedgerTests x, int contract) {
        int mutants = x.mutants(contract);
        seen.add(mutants);
        for (int i = 0; i < 48; i++) {
            seen.add(x.killer(contract, i));
        }
        for (int i = 0; i < mutants; i++) {
            for (int what = 0; what < 3; what++) {
                seen.add(x.mutant(contract, i, what));
            }
        }
    }

    private void outside(LedgerTests x, int contract) {
        for (int member = 0; member < 3; member++) {
            for (int argument : ARGUMENTS) {
                seen.add(x.call(0, contract, member, argument, 1));
                for (int what = 0; what < 4; what++) {
                    seen.add(x.told(what));
                }
            }
        }
        looks(x);
    }

    private void judges() {
        for (int contract = 0; contract < 4; contract++) {
            LedgerTests x = Made.by(calls);
            seen.add(x.judge(contract));
            killers(x, contract);
            seen.add(x.count(3));
        }
    }

    private void runs(LedgerTests x) {
        for (int test = 0; test < 6; test++) {
            seen.add(x.run(test));
            for (int what = 0; what < 4; what++) {
                seen.add(x.told(what));
            }
        }
        looks(x);
    }

    private void shrinks(LedgerTests x) {
        for (int test = 0; test < 6; test++) {
            seen.add(x.shrink(test));
        }
        lines(x, 0, 3);
        seen.add(x.count(3));
    }
}
