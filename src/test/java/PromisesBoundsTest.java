import java.util.function.Consumer;

/**
 * The boundaries of promises 1 to 22, in their order: what the last input on this side answers, what
 * the first one behind it does, and, by all that can be seen, that a refused call changes nothing.
 */
public final class PromisesBoundsTest {
    private static final int SET = 0, GET = 1, ADD = 2, LESS = 3, NEED = 4, PAY = 5, EVENT = 6;
    private static final int UNLESS = 7, ASK = 8, TRY = 9, AGE = 10, PART = 11;
    private static final int BAD = -1, FULL = -2, NONE = -2;
    private static final int COINS = 1000000000;
    private static final int LEAST = Integer.MIN_VALUE, MOST = Integer.MAX_VALUE;
    private static final int[] NO_ACCOUNTS = {LEAST, -1, 12, MOST};
    private static final int[] NO_CONTRACTS = {LEAST, -1, 2, 3, 4, MOST};
    private static final int[] NO_MEMBERS = {LEAST, -1, 3, MOST};
    private static final int[] NO_FACES = {LEAST, -1, 4, MOST};
    private static final int[] NO_TESTS = {LEAST, -1, 6, MOST};
    /** Two CONTRACTS; MEMBER 2 of CONTRACT 1 and TEST 3 are full, TEST 4 is empty. */
    private static final Consumer<LedgerTests> RICH = Made.rich(2);

    private PromisesBoundsTest() {
    }

    public static void main(String[] args) {
        newObject();
        account();
        contract();
        stepPlaces();
        stepNumbers();
        stepFull();
        bind();
        bindToNone();
        time();
        call();
        callAnswers();
        told();
        toldOfTheLatest();
        line();
        lineWords();
        lineFull();
        clear();
        run();
        mutants();
        mutant();
        judge();
        killer();
        shrink();
        lineOf();
        covered();
        coins();
        cell();
        event();
        count();
        Due.end();
    }

    private interface Call {
        int on(LedgerTests x, int number);
    }

    private static void refused(String what, int want, int[] numbers, Call call) {
        for (int number : numbers) {
            Sight.refused(what + " " + number, want, RICH, x -> call.on(x, number));
        }
    }

    private static LedgerTests rich() {
        return Made.by(RICH);
    }

    /** Promise 1: "No CONTRACTS, no LINES, FACES bound to none." */
    private static void newObject() {
        LedgerTests x = new LedgerTests();
        Due.is("no CONTRACTS", x.count(2), 0);
        Due.is("no CONTRACT 0", x.call(0, 0, 0, 0, 0), BAD);
        for (int test = 0; test <= 5; test++) {
            Due.is("no LINES", x.count(4 + test), 0);
            Due.is("no LINES", x.clear(test), 0);
        }
        Due.is("no FACES are bound", x.count(10), 0);
        Due.is("HEIGHT", x.count(0), 0);
        Due.is("EVENTS", x.count(1), 0);
        Due.is("STEPS and CALLS", x.count(3), 0);
        Due.is("the first CONTRACT", x.contract(), 0);
        for (int face = 0; face <= 3; face++) {
            Due.steps(x, 0, 0, TRY, 1, 0, ASK, face, 0);
        }
        Due.answers("bound to none", x, 9, 5);
        Due.is("THROW 3 four times, no CALL", x.count(3), 9);
    }

    /** Promise 2: "An ACCOUNT has these COINS: 1. BAD." */
    private static void account() {
        for (int a : new int[] {0, 7, 8, 11}) {
            for (int coins : new int[] {0, 1, COINS - 1, COINS}) {
                LedgerTests x = rich();
                Due.is("account", x.account(a, coins), 1);
                Due.is("has them", x.coins(a), coins);
            }
        }
        refused("no ACCOUNT", BAD, NO_ACCOUNTS, (x, a) -> x.account(a, 5));
        refused("no COINS", BAD, new int[] {LEAST, -1, COINS + 1, MOST}, (x, n) -> x.account(4, n));
    }

    /** Promise 3: "A CONTRACT: its number. FULL." */
    private static void contract() {
        LedgerTests x = rich();
        Due.is("the third one", x.contract(), 2);
        Due.is("the last one", x.contract(), 3);
        Due.is("no more", x.contract(), FULL);
        Due.is("no more", x.contract(), FULL);
        Sight.refused("FULL", FULL, Made.rich(4), LedgerTests::contract);
    }

    /** Promise 4: "A STEP more of a MEMBER: how many. BAD", for a CONTRACT, MEMBER or kind. */
    private static void stepPlaces() {
        Due.is("the last MEMBER of the first CONTRACT", rich().step(0, 2, ADD, 0, 0), 4);
        Due.is("the first MEMBER of the last CONTRACT", rich().step(1, 0, ADD, 0, 0), 4);
        refused("no CONTRACT", BAD, NO_CONTRACTS, (x, c) -> x.step(c, 0, ADD, 0, 7));
        refused("no MEMBER", BAD, NO_MEMBERS, (x, m) -> x.step(0, m, ADD, 0, 7));
        refused("no MEMBER of the last CONTRACT", BAD, NO_MEMBERS, (x, m) -> x.step(1, m, ADD, 0, 7));
        refused("no kind", BAD, new int[] {LEAST, -1, 12, 13, 14, MOST}, (x, kind) -> x.step(0, 0, kind, 1, 7));
        for (int kind = 0; kind <= 11; kind++) {
            Due.is("kind " + kind, rich().step(0, 0, kind, 1, 7), 5);
        }
    }

    /** "BAD: a of 0, 1, 3, 11 not 0 .. 3, of 4 not 0 .. 9, of 5 not 0 .. 11, of 7, 9 not 1 .. 7, of 8 not 0 .. 3" */
    private static void stepNumbers() {
        int[][] bounds = {
            {SET, 0, 3}, {GET, 0, 3}, {LESS, 0, 3}, {PART, 0, 3}, {NEED, 0, 9}, {PAY, 0, 11},
            {UNLESS, 1, 7}, {TRY, 1, 7}, {ASK, 0, 3},
        };
        for (int[] bound : bounds) {
            int kind = bound[0];
            for (int a = bound[1]; a <= bound[2]; a++) {
                Due.is("kind " + kind + ", a " + a, rich().step(0, 1, kind, a, LEAST), 4);
            }
            int[] behind = {LEAST, bound[1] - 1, bound[2] + 1, MOST};
            refused("kind " + kind + ", a", BAD, behind, (x, a) -> x.step(0, 1, kind, a, 0));
        }
        for (int kind : new int[] {ADD, EVENT, AGE}) {
            for (int a : new int[] {LEAST, -1, 0, 12, MOST}) {
                Due.is("any a, kind " + kind, rich().step(0, 1, kind, a, MOST), 4);
            }
        }
    }

    /** "FULL", and "BAD" where both are due: the number is not as told, whatever room there is. */
    private static void stepFull() {
        Due.is("the eighth STEP", Made.of(ADD, 0, 0, ADD, 0, 0, ADD, 0, 0, ADD, 0, 0, ADD, 0, 0, ADD, 0, 0, ADD, 0, 0).step(0, 0, ADD, 0, 0), 8);
        Sight.refused("the ninth STEP", FULL, RICH, x -> x.step(1, 2, SET, 3, 0));
        Sight.refused("the ninth STEP, BAD", BAD, RICH, x -> x.step(1, 2, SET, 4, 0));
        Sight.refused("the ninth STEP, no kind", BAD, RICH, x -> x.step(1, 2, 12, 0, 0));
        LedgerTests x = rich();
        Due.is("the last MEMBER of all is full", x.step(1, 2, ADD, 0, 0), FULL);
        Due.is("another one is not", x.step(1, 1, ADD, 0, 0), 5);
    }

    /** Promise 5: "A FACE is bound ..: 1. BAD." */
    private static void bind() {
        for (int face = 0; face <= 3; face++) {
            LedgerTests x = rich();
            Due.is("bind", x.bind(face, 1, 2), 1);
            Due.is("bound", x.count(10), face == 1 ? 4 : 3);
        }
        refused("no FACE", BAD, NO_FACES, (x, face) -> x.bind(face, 0, 1));
        refused("no CONTRACT", BAD, new int[] {LEAST, -2, 2, 3, 4, MOST}, (x, c) -> x.bind(2, c, 1));
        refused("no MEMBER", BAD, NO_MEMBERS, (x, m) -> x.bind(2, 0, m));
        refused("no MEMBER of the last CONTRACT", BAD, NO_MEMBERS, (x, m) -> x.bind(2, 1, m));
    }

    /** "(contract -1: to none, whatever member is)" */
    private static void bindToNone() {
        for (int member : new int[] {LEAST, -1, 0, 2, 3, MOST}) {
            LedgerTests x = rich();
            Due.is("to none, member " + member, x.bind(2, -1, member), 1);
            Due.is("bound", x.count(10), 2);
            Due.is("again", x.bind(2, -1, member), 1);
            Due.is("bound", x.count(10), 2);
            Due.is("held", x.call(0, 0, 2, 4, 0), 1);
            Due.is("THROW 3 as 5, and ADD", x.told(0), 4);
        }
        refused("no FACE to none", BAD, NO_FACES, (x, face) -> x.bind(face, -1, 0));
    }

    /** Promise 6: "HEIGHT is n (0 .. 1000) more: HEIGHT. BAD." */
    private static void time() {
        Due.is("0", rich().time(0), 7);
        Due.is("1", rich().time(1), 8);
        Due.is("999", rich().time(999), 1006);
        Due.is("1000", rich().time(1000), 1007);
        refused("time", BAD, new int[] {LEAST, -1, 1001, MOST}, (x, n) -> x.time(n));
    }

    /** Promise 7: "BAD: also coins below 0." */
    private static void call() {
        refused("no ACCOUNT", BAD, NO_ACCOUNTS, (x, a) -> x.call(a, 0, 0, 6, 0));
        refused("no CONTRACT", BAD, NO_CONTRACTS, (x, c) -> x.call(0, c, 0, 6, 0));
        refused("no MEMBER", BAD, NO_MEMBERS, (x, m) -> x.call(0, 0, m, 6, 0));
        refused("no MEMBER of the last CONTRACT", BAD, NO_MEMBERS, (x, m) -> x.call(0, 1, m, 6, 0));
        refused("coins", BAD, new int[] {LEAST, -1}, (x, n) -> x.call(0, 0, 0, 6, n));
        for (int a = 0; a <= 11; a++) {
            Due.is("by " + a, rich().call(a, 0, 0, 6, 0), 1);
        }
        Due.is("no coins", rich().call(0, 1, 2, 6, 0), 1);
        Due.is("all coins but those that went", rich().call(0, 1, 2, 6, 98), 1);
        Due.is("one more is no BAD, but THROW 1", rich().call(0, 1, 2, 6, 99), -11);
        Due.is("the most int is none, either", rich().call(0, 1, 2, 6, MOST), -11);
    }

    /** "1, or -10 less the number that it THREW": the least number is 1, the most 19. */
    private static void callAnswers() {
        Due.is("NEED 9 holds", Made.of(NEED, 9, 0).call(0, 0, 0, 0, 0), 1);
        Due.is("NEED 9 does not", Made.of(NEED, 9, 1).call(0, 0, 0, 0, 0), -29);
        Due.is("NEED 0", Made.of(NEED, 0, 1).call(0, 0, 0, 0, 0), -20);
        Due.is("THROW 1", Made.of(PAY, 0, 0).call(0, 0, 0, 1, 0), -11);
        Due.is("THROW 5", Made.of(ASK, 0, 0).call(0, 0, 0, 1, 0), -15);
        Due.is("THROW 6", Made.of(PART, 0, 0).call(0, 0, 0, 1, 0), -16);
        LedgerTests x = Made.contracts(1);
        x.account(0, 1);
        x.account(8, COINS);
        Due.is("THROW 2", x.call(0, 0, 0, 1, 1), -12);
        Due.is("answers below 0 are told, not answered", x.call(0, 0, 0, -11, 0), 1);
        Due.is("told", x.told(0), -11);
    }

    /** Promise 8: "0: another what, none yet." */
    private static void told() {
        LedgerTests x = Made.of(NEED, 3, 5);
        for (int what = -1; what <= 4; what++) {
            Due.is("none yet, " + what, x.told(what), 0);
        }
        x.call(12, 0, 0, 9, 0);
        Due.is("a refused call is none", x.told(0), 0);
        x.run(0);
        Due.is("a RUN without a CALL has none", x.told(0), 0);
        x.call(0, 0, 0, 9, 0);
        int[] answered = {9, 0, 0, 1};
        x.call(0, 0, 0, 9, -1);
        for (int what = 0; what <= 3; what++) {
            Due.is("it answered, " + what, x.told(what), answered[what]);
        }
        x.call(0, 0, 0, 4, 0);
        int[] threw = {0, 13, 13, 1};
        for (int what = 0; what <= 3; what++) {
            Due.is("it THREW, " + what, x.told(what), threw[what]);
        }
        refused("another what", 0, new int[] {LEAST, -1, 4, MOST}, (y, what) -> y.told(what));
    }

    /** "Of the latest CALL from outside (call(), or of a RUN)" */
    private static void toldOfTheLatest() {
        LedgerTests x = Made.of(NEED, 3, 5, ADD, 0, 1);
        Due.lines(x, 0, "call 0 0 7", "call 0 0 8", "sum 1", "call 0 0 9");
        Due.lines(x, 1, "sum 0");
        Due.lines(x, 2, "call 0 0 4", "throws 13 13");
        x.call(0, 0, 0, 20, 0);
        Due.is("call()", x.told(0), 21);
        Due.is("FAILS", x.run(0), 2);
        Due.is("the last one of the RUN", x.told(0), 9);
        Due.is("no CALL", x.run(1), -1);
        Due.is("as ahead", x.told(0), 9);
        Due.is("THROWS", x.run(2), -1);
        Due.is("told 0", x.told(0), 0);
        Due.is("told 1", x.told(1), 13);
        Due.is("told 3", x.told(3), 1);
        Due.is("one asked is not from outside", asking().told(3), 2);
    }

    private static LedgerTests asking() {
        LedgerTests x = Made.of(ASK, 0, 0);
        x.bind(0, 0, 1);
        Due.steps(x, 0, 1, GET, 0, 0);
        x.call(0, 0, 0, 5, 0);
        return x;
    }

    /** Promise 9: "A LINE more of a TEST: how many. BAD" */
    private static void line() {
        for (int test = 0; test <= 5; test++) {
            if (test != 3) {
                LedgerTests x = rich();
                int had = x.count(4 + test);
                Due.is("TEST " + test, x.line(test, Due.word("by"), LEAST, MOST, -1), had + 1);
                Due.is("LINES", x.count(4 + test), had + 1);
            }
        }
        refused("no TEST", BAD, NO_TESTS, (x, test) -> x.line(test, Due.word("by"), 0, 0, 0));
    }

    /** "BAD: also no such WORD", and "its letters, the first one highest, in the lowest bytes" */
    private static void lineWords() {
        String[] words = {
            "by", "call", "gives", "throws", "steps", "coins", "cell", "event", "sum", "time", "fork",
            "back", "face", "fails",
        };
        for (int i = 0; i < words.length; i++) {
            long word = Due.word(words[i]);
            LedgerTests x = new LedgerTests();
            Due.is(words[i], x.line(0, word, 0, 0, 0), 1);
            Due.is(words[i], x.lineOf(0, 0, 0), i);
            long[] wrong = {
                word - 1, word + 1, word << 8, word >> 8, -word, word | 1L << 56, word | LEAST, word & ~32L,
                word << 8 | 's', (long) 's' << 48 | word, ~word, word | 1L << 63,
            };
            for (long other : wrong) {
                Due.is("near " + words[i] + ": " + other, x.line(0, other, 0, 0, 0), BAD);
            }
            Due.is("nothing changes", x.count(4), 1);
        }
        for (long word : new long[] {0, 1, -1, Long.MIN_VALUE, Long.MAX_VALUE, 'b', Due.word("yb")}) {
            Sight.refused("no WORD " + word, BAD, RICH, x -> x.line(4, word, 0, 0, 0));
        }
        Due.is("the numbers of by", Due.word("by"), 25209);
    }

    /** "FULL", and "BAD" where both are due. */
    private static void lineFull() {
        Sight.refused("the 17th LINE", FULL, RICH, x -> x.line(3, Due.word("sum"), 1, 2, 3));
        Sight.refused("the 17th LINE, no WORD", BAD, RICH, x -> x.line(3, Due.word("sun"), 1, 2, 3));
        LedgerTests x = rich();
        Due.is("clear", x.clear(3), 16);
        Due.is("room again", x.line(3, Due.word("sum"), 1, 2, 3), 1);
    }

    /** Promise 10: "A TEST has no LINES: how many it had. BAD." */
    private static void clear() {
        int[] had = {5, 6, 6, 16, 0, 6};
        for (int test = 0; test <= 5; test++) {
            LedgerTests x = rich();
            Due.is("clear " + test, x.clear(test), had[test]);
            Due.is("again", x.clear(test), 0);
            for (int other = 0; other <= 5; other++) {
                Due.is("LINES of " + other, x.count(4 + other), other == test ? 0 : had[other]);
            }
            Due.is("no LINE", x.lineOf(test, 0, 1), 0);
            Due.is("it PASSES", x.run(test), -1);
        }
        refused("no TEST", BAD, NO_TESTS, (x, test) -> x.clear(test));
        Sight.refused("an empty one", 0, RICH, x -> x.clear(4));
    }

    /** Promise 11: "-1 it PASSES; else the LINE at which it FAILS, from 0. -2: no such TEST." */
    private static void run() {
        int[] due = {4, -1, 5, -1, -1, -1};
        for (int test = 0; test <= 5; test++) {
            Due.is("run " + test, rich().run(test), due[test]);
        }
        LedgerTests x = new LedgerTests();
        Due.lines(x, 0, "sum 1");
        Due.is("from 0", x.run(0), 0);
        refused("no TEST", NONE, NO_TESTS, (y, test) -> y.run(test));
    }

    /** Promise 12: "How many MUTANTS a CONTRACT has. BAD." */
    private static void mutants() {
        Due.is("CONTRACT 0", rich().mutants(0), 6 + 4 + 4);
        Due.is("CONTRACT 1", rich().mutants(1), 3 + 4 + 16);
        Due.is("none", Made.contracts(4).mutants(3), 0);
        refused("no CONTRACT", BAD, NO_CONTRACTS, (x, c) -> x.mutants(c));
    }

    /** Promise 13: "Of MUTANT i: what = 0 .., 1 .., 2 .. BAD." */
    private static void mutant() {
        LedgerTests x = rich();
        int[][] ends = {{0, 0, 0, 0, 0}, {0, 13, 2, 2, 1}, {1, 0, 0, 0, 0}, {1, 22, 2, 7, 1}};
        for (int[] end : ends) {
            for (int what = 0; what <= 2; what++) {
                Due.is("MUTANT " + end[1] + " of " + end[0], x.mutant(end[0], end[1], what), end[2 + what]);
            }
        }
        refused("no CONTRACT", BAD, NO_CONTRACTS, (y, c) -> y.mutant(c, 0, 0));
        refused("no MUTANT", BAD, new int[] {LEAST, -1, 14, MOST}, (y, i) -> y.mutant(0, i, 0));
        refused("no MUTANT of the last CONTRACT", BAD, new int[] {LEAST, -1, 23, MOST}, (y, i) -> y.mutant(1, i, 0));
        refused("another what", BAD, new int[] {LEAST, -1, 3, MOST}, (y, what) -> y.mutant(0, 0, what));
        Due.is("no MUTANTS", Made.contracts(1).mutant(0, 0, 0), BAD);
    }

    /** Promise 14: "how many were KILLED. BAD." */
    private static void judge() {
        refused("no CONTRACT", BAD, NO_CONTRACTS, (x, c) -> x.judge(c));
        LedgerTests x = Made.of(ADD, 0, 1, SET, 0, 0);
        Due.is("none", x.judge(0), 0);
        Due.lines(x, 0, "call 0 0 1", "gives 2", "cell 0 0 2");
        Due.is("all", x.judge(0), 3);
        Due.is("no CONTRACTS", new LedgerTests().judge(0), BAD);
    }

    /** Promise 15: "-1 it was not; -2 there was no such MUTANT, or no judge()." */
    private static void killer() {
        refused("no CONTRACT", NONE, NO_CONTRACTS, (x, c) -> x.killer(c, 0));
        refused("no MUTANT", NONE, new int[] {LEAST, -1, 14, 47, 48, MOST}, (x, i) -> x.killer(0, i));
        refused("no judge()", NONE, new int[] {LEAST, -1, 0, 22, 23, MOST}, (x, i) -> x.killer(1, i));
        LedgerTests x = Made.of(ADD, 0, 1);
        Due.is("no judge()", x.killer(0, 0), NONE);
        x.judge(1);
        Due.is("one that was refused is none", x.killer(0, 0), NONE);
        x.judge(0);
        Due.is("the last MUTANT", x.killer(0, 1), -1);
        Due.is("no such MUTANT", x.killer(0, 2), NONE);
        Due.steps(x, 0, 0, SET, 0, 0);
        Due.is("there is one now, but there was none", x.killer(0, 2), NONE);
        Due.lines(x, 2, "call 0 0 1", "gives 2");
        Due.is("judge", x.judge(0), 2);
        Due.is("the latest judge()", x.killer(0, 0), 2);
        Due.is("the latest judge()", x.killer(0, 2), -1);
        Due.is("no such MUTANT", x.killer(0, 3), NONE);
        x.clear(2);
        Due.is("as it was", x.killer(0, 0), 2);
    }

    /** Promise 16: "-1: it PASSES; -2: no such TEST." */
    private static void shrink() {
        refused("no TEST", NONE, NO_TESTS, (x, test) -> x.shrink(test));
        Sight.refused("no LINES", -1, RICH, x -> x.shrink(4));
        Sight.refused("16 LINES that PASS", -1, RICH, x -> x.shrink(3));
        LedgerTests x = rich();
        Due.is("FAILS", x.run(2), 5);
        Due.is("shrink", x.shrink(2), 3);
        Due.is("call", x.lineOf(2, 0, 0), 1);
        Due.is("throws", x.lineOf(2, 1, 0), 3);
        Due.is("steps", x.lineOf(2, 2, 0), 4);
        Due.is("no more LINES", x.lineOf(2, 3, 0), 0);
        Due.is("LINES", x.count(6), 3);
        Due.is("LINES of the one ahead", x.count(5), 6);
        Due.is("LINES of the one behind", x.count(7), 16);
        Due.is("room again", x.line(2, Due.word("sum"), 0, 0, 0), 4);
    }

    /** Promise 17: "0: there is none such." */
    private static void lineOf() {
        LedgerTests x = rich();
        for (int i = 0; i < 16; i++) {
            Due.is("word " + i, x.lineOf(3, i, 0), 9);
            Due.is("a " + i, x.lineOf(3, i, 1), i);
        }
        Due.is("the last LINE of the last TEST", x.lineOf(5, 5, 1), 4);
        refused("behind 16 LINES", 0, new int[] {LEAST, -1, 16, MOST}, (y, i) -> y.lineOf(3, i, 0));
        refused("behind the last LINE", 0, new int[] {LEAST, -1, 6, 15, 16, MOST}, (y, i) -> y.lineOf(5, i, 0));
        refused("no LINES", 0, new int[] {-1, 0}, (y, i) -> y.lineOf(4, i, 0));
        refused("no TEST", 0, NO_TESTS, (y, test) -> y.lineOf(test, 1, 0));
        refused("another what", 0, new int[] {LEAST, -1, 4, MOST}, (y, what) -> y.lineOf(0, 1, what));
        LedgerTests z = new LedgerTests();
        z.line(0, Due.word("fails"), LEAST, MOST, -1);
        Due.is("a", z.lineOf(0, 0, 1), LEAST);
        Due.is("b", z.lineOf(0, 0, 2), MOST);
        Due.is("c", z.lineOf(0, 0, 3), -1);
        z.clear(0);
        Due.is("cleared", z.lineOf(0, 0, 1), 0);
    }

    /** Promise 18: "bit 8 and k: UNLESS k passed over once; bit 16 and k: it did not once. BAD." */
    private static void covered() {
        refused("no CONTRACT", BAD, NO_CONTRACTS, (x, c) -> x.covered(c, 0));
        refused("no MEMBER", BAD, NO_MEMBERS, (x, m) -> x.covered(0, m));
        refused("no MEMBER of the last CONTRACT", BAD, NO_MEMBERS, (x, m) -> x.covered(1, m));
        LedgerTests x = Made.contracts(4);
        for (int i = 0; i < 8; i++) {
            Due.steps(x, 3, 2, UNLESS, 1, i == 0 ? 1 : 5);
        }
        Due.is("none yet", x.covered(3, 2), 0);
        x.call(0, 3, 2, 0, 0);
        Due.is("each passes over the next one", x.covered(3, 2), 0x5555);
        x.call(0, 3, 2, 1, 0);
        Due.is("one does not, the next ones do", x.covered(3, 2), 0x1ffff);
        x.call(0, 3, 2, 5, 0);
        Due.is("none does", x.covered(3, 2), 0xffffff);
        Due.is("no other MEMBER", x.covered(3, 1), 0);
        Due.is("no other CONTRACT", x.covered(2, 2), 0);
    }

    /** Promise 19: "COINS of an ACCOUNT. BAD." */
    private static void coins() {
        Due.is("ACCOUNT 0", rich().coins(0), 98);
        Due.is("ACCOUNT 11", rich().coins(11), 7);
        refused("no ACCOUNT", BAD, NO_ACCOUNTS, (x, a) -> x.coins(a));
    }

    /** Promise 20: "A CELL of a CONTRACT. 0: there is none such." */
    private static void cell() {
        LedgerTests x = Made.contracts(2);
        for (int i = 0; i <= 3; i++) {
            Due.steps(x, 0, 0, SET, i, 0);
            Due.steps(x, 1, 0, SET, i, 0);
        }
        x.call(0, 0, 0, 70, 0);
        x.call(0, 1, 0, 71, 0);
        for (int i = 0; i <= 3; i++) {
            Due.is("CELL " + i, x.cell(0, i), 70);
            Due.is("CELL " + i, x.cell(1, i), 71);
        }
        for (int none : new int[] {LEAST, -1, 4, 5, MOST}) {
            Due.is("no CELL " + none, x.cell(0, none), 0);
            Due.is("no CELL " + none, x.cell(1, none), 0);
        }
        for (int none : new int[] {LEAST, -1, 2, 3, 4, MOST}) {
            Due.is("no CONTRACT " + none, x.cell(none, 0), 0);
        }
        refused("no CELL", 0, new int[] {LEAST, -1, 4, MOST}, (y, i) -> y.cell(0, i));
        refused("no CONTRACT", 0, NO_CONTRACTS, (y, c) -> y.cell(c, 0));
    }

    /** Promise 21: "EVENT i. 0: there is none such." */
    private static void event() {
        LedgerTests x = Made.of(EVENT, 0, 0);
        Due.is("none yet", x.event(0), 0);
        for (int i = 0; i < 41; i++) {
            Due.is("not yet", x.event(i), 0);
            x.call(0, 0, 0, 5 + i, 0);
            Due.is("EVENT " + i, x.event(i), i < 40 ? 5 + i : 0);
        }
        for (int none : new int[] {LEAST, -1, 40, 41, MOST}) {
            Due.is("no EVENT " + none, x.event(none), 0);
        }
        Due.is("three came", rich().count(1), 3);
        refused("no EVENT", 0, new int[] {LEAST, -1, 3, 39, 40, MOST}, (y, i) -> y.event(i));
    }

    /** Promise 22: "of TEST what - 4 (4 .. 9) LINES; 10 FACES that are bound. BAD." */
    private static void count() {
        int[] due = {7, 3, 2, -1, 5, 6, 6, 16, 0, 6, 3};
        LedgerTests x = rich();
        for (int what = 0; what <= 10; what++) {
            if (what != 3) {
                Due.is("count " + what, x.count(what), due[what]);
            }
        }
        int had = x.count(3);
        x.call(0, 0, 0, 6, 0);
        Due.is("a CALL and four STEPS", x.count(3), had + 5);
        refused("count", BAD, new int[] {LEAST, LEAST + 3, LEAST + 4, -1, 11, 12, MOST}, (y, what) -> y.count(what));
    }
}
