/** Promises 9, 10, 11 and 17: TESTS, their LINES and their RUNS. */
public final class LinesPromisesTest {
    private static final int SET = 0, GET = 1, ADD = 2, NEED = 4, PAY = 5, EVENT = 6, UNLESS = 7;
    private static final int ASK = 8, TRY = 9, AGE = 10;
    private static final String[] WORDS = {
        "by", "call", "gives", "throws", "steps", "coins", "cell", "event", "sum", "time", "fork",
        "back", "face", "fails",
    };

    private LinesPromisesTest() {
    }

    public static void main(String[] args) {
        words();
        wrongLines();
        fullTest();
        clears();
        emptyRuns();
        calls();
        gives();
        throwsLines();
        steps();
        by();
        coinsAndSum();
        cells();
        events();
        timeLine();
        forks();
        faces();
        eachFace();
        facesTooDeep();
        failsLines();
        stateAsAhead();
        Due.end();
    }

    /** A LINE to try, as its WORD and numbers. */
    private record Told(String word, int... numbers) {
    }

    private static Told of(String word, int... numbers) {
        return new Told(word, numbers);
    }

    /** Puts the LINES into TEST 5 and looks at what run() answers. */
    private static void runs(String what, LedgerTests x, int want, Told... lines) {
        x.clear(5);
        for (Told told : lines) {
            Due.line(x, 5, told.word(), told.numbers());
        }
        Due.is(what, x.run(5), want);
    }

    /**
     * CONTRACT 0: MEMBER 0 NEEDS 5, SETS CELL 1, adds 1 and makes an EVENT; MEMBER 1 pays its VALUE
     * to ACCOUNT 3; MEMBER 2 ASKS FACE 2. CONTRACT 1: MEMBER 0 answers HEIGHT.
     */
    private static LedgerTests ledger() {
        LedgerTests x = new LedgerTests();
        x.contract();
        x.contract();
        x.account(0, 100);
        x.account(4, 40);
        Due.steps(x, 0, 0, NEED, 2, 5, SET, 1, 0, ADD, 0, 1, EVENT, 0, 0);
        Due.steps(x, 0, 1, PAY, 3, 0);
        Due.steps(x, 0, 2, ASK, 2, 0, ADD, 0, 1);
        Due.steps(x, 1, 0, AGE, 0, 0);
        return x;
    }

    private static void words() {
        LedgerTests x = new LedgerTests();
        for (int i = 0; i < WORDS.length; i++) {
            Due.is("line", x.line(2, Due.word(WORDS[i]), i, -i, 100 + i), i + 1);
        }
        for (int i = 0; i < WORDS.length; i++) {
            Due.is("word of " + WORDS[i], x.lineOf(2, i, 0), i);
            Due.is("a", x.lineOf(2, i, 1), i);
            Due.is("b", x.lineOf(2, i, 2), -i);
            Due.is("c", x.lineOf(2, i, 3), 100 + i);
            Due.is("what 4", x.lineOf(2, i, 4), 0);
            Due.is("what -1", x.lineOf(2, i, -1), 0);
        }
        Due.is("behind the last one", x.lineOf(2, WORDS.length, 3), 0);
        Due.is("line -1", x.lineOf(2, -1, 3), 0);
        Due.is("line 16", x.lineOf(2, 16, 3), 0);
        Due.is("another test", x.lineOf(1, 13, 3), 0);
        Due.is("test 6", x.lineOf(6, 0, 3), 0);
        Due.is("test -1", x.lineOf(-1, 0, 3), 0);
        Due.is("count", x.count(6), WORDS.length);
        Due.is("count of another", x.count(5), 0);
    }

    private static void wrongLines() {
        LedgerTests x = new LedgerTests();
        Due.is("no letters", x.line(0, 0, 0, 0, 0), -1);
        for (String word : new String[] {"b", "byy", "calls", "give", "throw", "step", "coin", "By", "CALL"}) {
            Due.is("word " + word, x.line(0, Due.word(word), 0, 0, 0), -1);
        }
        Due.is("letters behind", x.line(0, Due.word("by") << 8, 0, 0, 0), -1);
        Due.is("more ahead", x.line(0, Due.word("by") | 1L << 32, 0, 0, 0), -1);
        Due.is("below 0", x.line(0, -1L, 0, 0, 0), -1);
        Due.is("test 6", x.line(6, Due.word("by"), 0, 0, 0), -1);
        Due.is("test -1", x.line(-1, Due.word("by"), 0, 0, 0), -1);
        Due.is("nothing changes", x.count(4), 0);
    }

    private static void fullTest() {
        LedgerTests x = new LedgerTests();
        for (int i = 1; i <= 16; i++) {
            Due.is("line " + i, x.line(0, Due.word("sum"), 0, 0, i), i);
        }
        Due.is("line 17", x.line(0, Due.word("sum"), 0, 0, 0), -2);
        Due.is("line 17, wrong", x.line(0, Due.word("sun"), 0, 0, 0), -1);
        Due.is("the last one", x.lineOf(0, 15, 3), 16);
        Due.is("the next test", x.count(5), 0);
        Due.is("run", x.run(0), -1);
    }

    private static void clears() {
        LedgerTests x = new LedgerTests();
        Due.line(x, 0, "sum", 6, 7, 8);
        Due.line(x, 3, "sum", 1);
        Due.line(x, 3, "sum", 0);
        Due.line(x, 2, "sum", 0);
        Due.is("clear", x.clear(3), 2);
        Due.is("clear again", x.clear(3), 0);
        Due.is("no line", x.lineOf(3, 0, 1), 0);
        Due.is("no line", x.count(7), 0);
        Due.is("another stays", x.count(6), 1);
        Due.is("the first LINE of all, a", x.lineOf(0, 0, 1), 6);
        Due.is("the first LINE of all, b", x.lineOf(0, 0, 2), 7);
        Due.is("the first LINE of all, c", x.lineOf(0, 0, 3), 8);
        Due.is("the first LINE of all", x.run(0), 0);
        Due.is("run", x.run(3), -1);
        Due.is("clear 6", x.clear(6), -1);
        Due.is("clear -1", x.clear(-1), -1);
    }

    private static void emptyRuns() {
        LedgerTests x = new LedgerTests();
        Due.is("run 5", x.run(5), -1);
        Due.is("run 6", x.run(6), -2);
        Due.is("run -1", x.run(-1), -2);
    }

    private static void calls() {
        LedgerTests x = ledger();
        runs("call", x, -1, of("call", 0, 0, 5));
        runs("no contract", x, 0, of("call", 2, 0, 5));
        runs("contract -1", x, 0, of("call", -1, 0, 5));
        runs("no member", x, 0, of("call", 0, 3, 5));
        runs("member -1", x, 0, of("call", 0, -1, 5), of("throws", 0, 0));
        runs("throws at the end", x, 0, of("call", 0, 0, 4));
        runs("throws, no throws next", x, 0, of("call", 0, 0, 4), of("sum", 140), of("throws", 12, 12));
        runs("throws next", x, -1, of("call", 0, 0, 4), of("throws", 12, 12), of("sum", 140));
        runs("throws next, otherwise", x, 1, of("call", 0, 0, 4), of("throws", 11, 12));
        runs("the first one", x, 1, of("call", 0, 0, 7), of("gives", 7), of("gives", 6));
        runs("CELLS go on", x, -1, of("call", 0, 0, 7), of("cell", 0, 1, 7), of("call", 0, 0, 9), of("cell", 0, 1, 9));
        runs("a THROW changes nothing", x, -1, of("call", 0, 0, 7), of("call", 0, 0, 4), of("throws", 12, 12), of("cell", 0, 1, 7), of("event", 0, 8));
    }

    private static void gives() {
        LedgerTests x = ledger();
        x.call(0, 0, 0, 7, 0);
        runs("no CALL in this RUN", x, 0, of("gives", 8));
        runs("no CALL in this RUN", x, 0, of("gives", 0));
        runs("gives", x, -1, of("call", 0, 0, 7), of("gives", 8));
        runs("gives otherwise", x, 1, of("call", 0, 0, 7), of("gives", 7));
        runs("the last CALL", x, -1, of("call", 0, 0, 7), of("call", 0, 0, 8), of("gives", 9), of("gives", 9));
        runs("one that THREW gives nothing", x, 2, of("call", 0, 0, 4), of("throws", 12, 12), of("gives", 0));
        runs("one that THREW gives nothing", x, 3, of("call", 0, 0, 7), of("call", 0, 0, 4), of("throws", 12, 12), of("gives", 8));
    }

    private static void throwsLines() {
        LedgerTests x = ledger();
        x.call(0, 0, 0, 4, 0);
        runs("no CALL in this RUN", x, 0, of("throws", 12, 12));
        runs("it did not THROW", x, 1, of("call", 0, 0, 7), of("throws", 0, 0));
        runs("cause", x, -1, of("call", 0, 2, 4), of("throws", 5, 3));
        runs("cause otherwise", x, 1, of("call", 0, 2, 4), of("throws", 5, 5));
        runs("twice", x, -1, of("call", 0, 2, 4), of("throws", 5, 3), of("throws", 5, 3));
        x.bind(2, 0, 0);
        runs("cause", x, -1, of("call", 0, 2, 4), of("throws", 5, 12));
        runs("cause, no more", x, -1, of("call", 0, 2, 6), of("gives", 8));
    }

    private static void steps() {
        LedgerTests x = ledger();
        x.call(0, 0, 0, 7, 0);
        runs("no CALL in this RUN", x, 0, of("steps", 100));
        runs("steps", x, -1, of("call", 0, 0, 7), of("steps", 4), of("steps", 5));
        runs("one too many", x, 1, of("call", 0, 0, 7), of("steps", 3));
        runs("below 0", x, 1, of("call", 1, 1, 7), of("steps", -1));
        runs("none", x, -1, of("call", 1, 1, 7), of("steps", 0));
        runs("of one that THREW", x, -1, of("call", 0, 0, 1), of("throws", 12, 12), of("steps", 1));
        x.bind(2, 0, 0);
        runs("of both", x, 2, of("call", 0, 2, 6), of("steps", 6), of("steps", 5));
    }

    private static void by() {
        LedgerTests x = ledger();
        runs("0, 0 at first", x, -1, of("call", 1, 1, 7), of("coins", 0, 100), of("coins", 9, 0));
        runs("by", x, -1, of("by", 4, 7), of("call", 1, 1, 7), of("call", 1, 1, 7), of("coins", 4, 26), of("coins", 9, 14));
        runs("by again", x, -1, of("by", 4, 7), of("call", 1, 1, 7), of("by", 0, 0), of("call", 1, 1, 7), of("coins", 4, 33));
        runs("too many", x, -1, of("by", 4, 41), of("call", 1, 1, 7), of("throws", 1, 1));
        runs("more than any has", x, -1, of("by", 4, Integer.MAX_VALUE), of("call", 1, 1, 7), of("throws", 1, 1));
        runs("coins -1", x, 0, of("by", 4, -1), of("call", 1, 1, 7), of("throws", 1, 1));
        runs("least coins", x, 1, of("by", 4, 0), of("by", 4, Integer.MIN_VALUE));
        runs("coins -1 by none with coins", x, 0, of("by", 3, -1));
        runs("coins -1 by a CONTRACT", x, 2, of("by", 8, 0), of("call", 0, 0, 6), of("by", 8, -1));
        runs("account 11", x, -1, of("by", 11, 0));
        runs("account 12", x, 0, of("by", 12, 0));
        runs("account -1", x, 0, of("by", -1, 0));
        runs("by at last", x, -1, of("by", 4, 7));
        runs("anew in each RUN", x, -1, of("call", 1, 1, 7), of("coins", 9, 0));
    }

    private static void coinsAndSum() {
        LedgerTests x = ledger();
        runs("coins", x, -1, of("coins", 4, 40), of("coins", 0, 100), of("coins", 11, 0));
        runs("coins otherwise", x, 0, of("coins", 4, 41));
        runs("account 12", x, 0, of("coins", 12, 0));
        runs("account -1", x, 0, of("coins", -1, -1));
        runs("sum", x, -1, of("sum", 140), of("by", 0, 50), of("call", 0, 1, 20), of("sum", 140), of("coins", 3, 20));
        runs("sum otherwise", x, 0, of("sum", 141));
        Due.steps(x, 1, 1, SET, 0, 0);
        Due.steps(x, 0, 0, SET, 0, 0);
        x.call(0, 1, 1, 33, 0);
        x.call(0, 0, 0, 33, 0);
        x.account(11, 1);
        runs("all ACCOUNTS", x, -1, of("sum", 141));
        for (int a = 0; a < 5; a++) {
            x.account(a, 1000000000);
        }
        x.account(11, 0);
        runs("more than an int has", x, 0, of("sum", (int) 5000000000L));
    }

    private static void cells() {
        LedgerTests x = ledger();
        runs("cell", x, -1, of("cell", 1, 3, 0), of("call", 0, 0, 6), of("cell", 0, 1, 6));
        runs("cell otherwise", x, 1, of("call", 0, 0, 6), of("cell", 0, 1, 0));
        runs("no contract", x, 0, of("cell", 2, 0, 0));
        runs("contract -1", x, 0, of("cell", -1, 0, 0));
        runs("cell 4", x, 0, of("cell", 0, 4, 0));
        runs("cell -1", x, 0, of("cell", 1, -1, 0));
    }

    private static void events() {
        LedgerTests x = ledger();
        x.call(0, 0, 0, 20, 0);
        runs("of this RUN alone", x, 0, of("event", 0, 21));
        runs("event", x, -1, of("call", 0, 0, 30), of("call", 0, 0, 40), of("event", 0, 31), of("event", 1, 41));
        runs("event otherwise", x, 1, of("call", 0, 0, 30), of("event", 0, 30));
        runs("no such event", x, 1, of("call", 0, 0, 30), of("event", 1, 0));
        runs("event -1", x, 1, of("call", 0, 0, 30), of("event", -1, 21));
        runs("event most", x, 1, of("call", 0, 0, 30), of("event", Integer.MAX_VALUE, 0));
        Due.is("as ahead", x.count(1), 1);
        for (int i = 0; i < 38; i++) {
            x.call(0, 0, 0, 20, 0);
        }
        runs("one more has room", x, 3, of("call", 0, 0, 30), of("call", 0, 0, 40), of("event", 0, 31), of("event", 1, 41));
    }

    private static void timeLine() {
        LedgerTests x = ledger();
        x.time(5);
        runs("time", x, -1, of("time", 1000), of("time", 0), of("call", 1, 0, 9), of("gives", 1005));
        runs("time 1001", x, 0, of("time", 1001));
        runs("time -1", x, 0, of("time", -1));
        Due.is("as ahead", x.count(0), 5);
    }

    private static void forks() {
        LedgerTests x = ledger();
        runs("fork", x, -1, of("fork", 2), of("back", 2), of("fork", 0), of("back", 0), of("fork", 1));
        runs("fork 3", x, 0, of("fork", 3));
        runs("fork -1", x, 0, of("fork", -1));
        runs("back without fork", x, 1, of("fork", 1), of("back", 0));
        runs("forks of another RUN", x, 0, of("back", 1));
        runs("back 3", x, 0, of("back", 3));
        runs("back -1", x, 0, of("back", -1));
        runs("back", x, -1, of("by", 4, 10), of("time", 3), of("call", 0, 0, 8), of("fork", 1), of("time", 4),
            of("call", 0, 0, 9), of("back", 1), of("cell", 0, 1, 8), of("coins", 4, 30), of("event", 0, 9),
            of("call", 1, 0, 0), of("gives", 3), of("coins", 4, 20));
        runs("no EVENT behind the FORK", x, 4, of("call", 0, 0, 8), of("fork", 1), of("call", 0, 0, 9), of("back", 1), of("event", 1, 10));
        runs("back twice", x, -1, of("fork", 0), of("call", 0, 0, 8), of("back", 0), of("call", 0, 0, 9), of("back", 0), of("cell", 0, 1, 0));
        runs("fork again", x, -1, of("fork", 0), of("call", 0, 0, 8), of("fork", 0), of("call", 0, 0, 9), of("back", 0), of("cell", 0, 1, 8));
        runs("the last CALL is no part of THE STATE", x, -1, of("fork", 0), of("call", 0, 0, 8), of("back", 0), of("gives", 9));
        runs("doubles are none either", x, -1, of("fork", 0), of("face", 2, 8), of("back", 0), of("call", 0, 2, 0), of("gives", 9));
    }

    private static void faces() {
        LedgerTests x = ledger();
        runs("face", x, -1, of("face", 2, 70), of("call", 0, 2, 0), of("gives", 71), of("steps", 2));
        runs("in that RUN alone", x, 0, of("call", 0, 2, 0), of("gives", 71));
        runs("face 4", x, 0, of("face", 4, 0));
        runs("face -1", x, 0, of("face", -1, 0));
        runs("another face", x, 1, of("face", 1, 70), of("call", 0, 2, 0));
        x.bind(2, 0, 0);
        runs("whatever it is bound to", x, -1, of("face", 2, 70), of("call", 0, 2, 0), of("gives", 71), of("cell", 0, 1, 0));
        runs("the last one", x, -1, of("face", 2, 70), of("face", 2, 60), of("call", 0, 2, 0), of("gives", 61));
        runs("bound as ahead", x, -1, of("call", 0, 2, 6), of("gives", 8));
        int had = x.count(3);
        runs("no CALL, no STEP", x, -1, of("face", 2, 70), of("call", 0, 2, 0));
        Due.is("no CALL, no STEP", x.count(3), had + 3);
    }

    private static void eachFace() {
        for (int face = 0; face < 4; face++) {
            LedgerTests x = new LedgerTests();
            x.contract();
            Due.steps(x, 0, 0, ASK, face, 0);
            runs("face " + face, x, -1, of("face", face, 70), of("call", 0, 0, 0), of("gives", 70));
            runs("in that RUN alone", x, -1, of("call", 0, 0, 0), of("throws", 5, 3));
            runs("fails " + face, x, -1, of("fails", face, 4), of("call", 0, 0, 0), of("throws", 5, 24));
            runs("in that RUN alone", x, -1, of("call", 0, 0, 0), of("throws", 5, 3));
        }
    }

    private static void facesTooDeep() {
        LedgerTests x = new LedgerTests();
        x.contract();
        x.bind(0, 0, 0);
        Due.steps(x, 0, 0, ADD, 0, 1, UNLESS, 1, 4, ASK, 1, 0, UNLESS, 1, 3, GET, 0, 0, ASK, 0, 0);
        runs("too deep", x, -1, of("face", 1, 0), of("call", 0, 0, -50), of("throws", 5, 4));
        runs("a double is no CALL", x, -1, of("face", 1, 7), of("face", 0, 9), of("call", 0, 0, 3), of("gives", 9), of("steps", 6));
        LedgerTests y = new LedgerTests();
        y.contract();
        y.contract();
        y.bind(0, 0, 0);
        y.bind(1, 0, 1);
        y.bind(2, 0, 2);
        Due.steps(y, 0, 0, ASK, 1, 0);
        Due.steps(y, 0, 1, ASK, 2, 0);
        Due.steps(y, 0, 2, ASK, 3, 0);
        Due.steps(y, 1, 0, ASK, 0, 0);
        runs("a double behind four CALLS", y, -1, of("face", 3, 7), of("call", 1, 0, 0), of("gives", 7), of("steps", 4));
        runs("a failing double behind four CALLS", y, -1, of("fails", 3, 0), of("call", 1, 0, 0), of("throws", 5, 20));
        runs("none behind four CALLS", y, -1, of("call", 1, 0, 0), of("throws", 5, 3));
    }

    private static void failsLines() {
        LedgerTests x = ledger();
        runs("fails", x, -1, of("fails", 2, 5), of("call", 0, 2, 0), of("throws", 5, 25), of("steps", 1));
        runs("fails 0", x, -1, of("fails", 2, 0), of("call", 0, 2, 0), of("throws", 5, 20));
        runs("in that RUN alone", x, -1, of("call", 0, 2, 0), of("throws", 5, 3));
        runs("fails 6", x, 0, of("fails", 2, 6));
        runs("fails -1", x, 0, of("fails", 2, -1));
        runs("face 4", x, 0, of("fails", 4, 0));
        runs("face -1", x, 0, of("fails", -1, 0));
        runs("face behind fails", x, -1, of("fails", 2, 1), of("face", 2, 1), of("call", 0, 2, 0), of("gives", 2));
        runs("fails behind face", x, -1, of("face", 2, 1), of("fails", 2, 1), of("call", 0, 2, 0), of("throws", 5, 21));
        Due.steps(x, 1, 1, TRY, 1, 0, ASK, 2, 0);
        runs("a TRY holds it", x, -1, of("fails", 2, 1), of("call", 1, 1, 0), of("gives", 5));
        runs("in that RUN alone", x, 2, of("fails", 2, 1), of("sum", 140), of("sum", 0));
        Due.is("nor in call()", x.call(0, 0, 2, 0, 0), -15);
        Due.is("nor in call()", x.told(2), 3);
    }

    private static void stateAsAhead() {
        LedgerTests x = ledger();
        x.time(2);
        x.call(4, 0, 0, 20, 1);
        Told[] lines = {
            of("by", 0, 30), of("time", 9), of("call", 0, 0, 30), of("call", 0, 1, 10), of("coins", 3, 10),
        };
        runs("passes", x, -1, lines);
        looksAsAhead(x);
        lines[4] = of("coins", 3, 11);
        runs("fails", x, 4, lines);
        looksAsAhead(x);
    }

    private static void looksAsAhead(LedgerTests x) {
        Due.is("coins 0", x.coins(0), 100);
        Due.is("coins 3", x.coins(3), 0);
        Due.is("coins 8", x.coins(8), 1);
        Due.is("cell", x.cell(0, 1), 20);
        Due.is("height", x.count(0), 2);
        Due.is("events", x.count(1), 1);
        Due.is("event", x.event(0), 21);
    }
}
