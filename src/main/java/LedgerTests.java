/**
 * A ledger with contracts, tests of them told line by line, mutants of the contracts and the
 * shortening of failing tests. The words in capitals are those of the document.
 */
public final class LedgerTests {
    public static final int BAD = -1, FULL = -2;

    private static final int PASSES = -1, NO_TEST = -2;

    private final State state;
    private final Code code;
    private final Faces faces;
    private final Machine machine;
    private final Scripts scripts;
    private final Runner runner;
    private final Mutants judging;

    public LedgerTests() {
        state = new State();
        code = new Code();
        faces = new Faces();
        machine = new Machine(state, code, faces);
        scripts = new Scripts();
        runner = new Runner(state, code, faces, machine, scripts);
        judging = new Mutants(code);
    }

    public int account(int a, int coins) {
        return state.putCoins(a, coins) ? 1 : BAD;
    }

    public int contract() {
        return code.newContract();
    }

    public int step(int contract, int member, int kind, int a, int b) {
        int place = code.placeOf(contract, member);
        if (place < 0 || !Code.fits(kind, a)) {
            return BAD;
        }
        return code.append(place, kind, a, b);
    }

    public int bind(int face, int contract, int member) {
        int place = contract == -1 ? Faces.NONE : code.placeOf(contract, member);
        if (!Faces.isFace(face) || contract != -1 && place < 0) {
            return BAD;
        }
        faces.bindTo(face, place);
        return 1;
    }

    public int time(int n) {
        return state.age(n) ? state.height() : BAD;
    }

    public int call(int account, int contract, int member, int argument, int coins) {
        int place = code.placeOf(contract, member);
        if (place < 0 || !State.isAccount(account) || coins < 0) {
            return BAD;
        }
        machine.callFromOutside(account, place, argument, coins);
        return machine.threw() ? -10 - machine.thrown() : 1;
    }

    public int told(int what) {
        switch (what) {
            case 0: return machine.answered();
            case 1: return machine.thrown();
            case 2: return machine.lastCause();
            case 3: return machine.stepsDone();
            default: return 0;
        }
    }

    public int line(int test, long word, int a, int b, int c) {
        int place = Scripts.wordPlace(word);
        if (!Scripts.isTest(test) || place < 0) {
            return BAD;
        }
        return scripts.append(test, place, a, b, c);
    }

    public int clear(int test) {
        return Scripts.isTest(test) ? scripts.empty(test) : BAD;
    }

    public int run(int test) {
        return Scripts.isTest(test) ? runner.failingLine(test, 0) : NO_TEST;
    }

    public int mutants(int contract) {
        return code.isContract(contract) ? judging.howMany(contract) : BAD;
    }

    public int mutant(int contract, int i, int what) {
        if (!code.isContract(contract)) {
            return BAD;
        }
        int found = judging.find(contract, i);
        if (found < 0) {
            return BAD;
        }
        switch (what) {
            case 0: return Mutants.memberOf(found);
            case 1: return Mutants.stepOf(found);
            case 2: return Mutants.isSecond(found) ? 1 : 0;
            default: return BAD;
        }
    }

    public int judge(int contract) {
        if (!code.isContract(contract)) {
            return BAD;
        }
        int passed = 0;
        for (int test = 0; test < Scripts.TESTS; test++) {
            if (runner.failingLine(test, 0) == PASSES) {
                passed |= 1 << test;
            }
        }
        int count = judging.begin(contract);
        int killed = 0;
        for (int i = 0; i < count; i++) {
            judging.putIn(contract, i);
            int killer = Mutants.NOT_KILLED;
            for (int test = 0; test < Scripts.TESTS && killer == Mutants.NOT_KILLED; test++) {
                if ((passed >> test & 1) == 1 && runner.failingLine(test, 0) != PASSES) {
                    killer = test;
                    killed++;
                }
            }
            judging.takeOut(contract, i, killer);
        }
        return killed;
    }

    public int killer(int contract, int i) {
        return judging.killerOf(contract, i);
    }

    public int shrink(int test) {
        if (!Scripts.isTest(test)) {
            return NO_TEST;
        }
        int failing = runner.failingLine(test, 0);
        if (failing == PASSES) {
            return PASSES;
        }
        int size = scripts.size(test);
        int dropped = 0;
        boolean went = true;
        // Each round but the last one drops a LINE.
        for (int round = 0; went && round <= size; round++) {
            went = false;
            for (int i = 0; i < size; i++) {
                int fewer = dropped | 1 << i;
                if (fewer != dropped && runner.failingLine(test, fewer) == failing) {
                    dropped = fewer;
                    went = true;
                }
            }
        }
        return scripts.dropLines(test, dropped);
    }

    public int lineOf(int test, int i, int what) {
        int slot = scripts.slotOf(test, i);
        if (slot < 0) {
            return 0;
        }
        switch (what) {
            case 0: return scripts.word(slot);
            case 1: return scripts.a(slot);
            case 2: return scripts.b(slot);
            case 3: return scripts.c(slot);
            default: return 0;
        }
    }

    public int covered(int contract, int member) {
        int place = code.placeOf(contract, member);
        return place < 0 ? BAD : code.coveredBits(place);
    }

    public int coins(int a) {
        return State.isAccount(a) ? state.coinsOf(a) : BAD;
    }

    public int cell(int contract, int i) {
        return code.isContract(contract) && State.isCell(i) ? state.cellOf(contract, i) : 0;
    }

    public int event(int i) {
        return state.eventAt(i);
    }

    public int count(int what) {
        switch (what) {
            case 0: return state.height();
            case 1: return state.eventCount();
            case 2: return code.contractCount();
            case 3: return machine.inAll();
            case 10: return faces.boundCount();
            default: return Scripts.isTest(what - 4) ? scripts.size(what - 4) : BAD;
        }
    }

    /** THE STATE in one row of ints, so that to keep it and to go back to it are one copy each. */
    private static final class State {
        static final int ACCOUNTS = 12, FIRST_OF_CONTRACTS = 8, CELLS = 4;
        static final int MOST_COINS = 1000000000, MOST_AGE = 1000, MOST_EVENTS = 40;
        static final int ALL_CELLS = Code.CONTRACTS * CELLS, CELL_PLACE = ACCOUNTS;
        static final int HEIGHT_PLACE = CELL_PLACE + ALL_CELLS, COUNT_PLACE = HEIGHT_PLACE + 1;
        static final int EVENT_PLACE = COUNT_PLACE + 1, SIZE = EVENT_PLACE + MOST_EVENTS;

        private final int[] row = new int[SIZE];

        static boolean isAccount(int a) {
            return a >= 0 && a < ACCOUNTS;
        }

        static boolean isCell(int i) {
            return i >= 0 && i < CELLS;
        }

        int coinsOf(int account) {
            return account >= 0 && account < ACCOUNTS ? row[account] : 0;
        }

        boolean putCoins(int account, int coins) {
            if (account < 0 || account >= ACCOUNTS || coins < 0 || coins > MOST_COINS) {
                return false;
            }
            row[account] = coins;
            return true;
        }

        /** A long, because three full ACCOUNTS have more than an int can hold. */
        long allCoins() {
            long sum = 0;
            for (int a = 0; a < ACCOUNTS; a++) {
                sum += row[a];
            }
            return sum;
        }

        /** Answers the number of the THROW, 0 if the coins went. */
        int pay(int from, int to, int n) {
            if (from < 0 || from >= ACCOUNTS || to < 0 || to >= ACCOUNTS) {
                return Machine.TOO_FEW_COINS;
            }
            if (n < 0 || n > row[from]) {
                return Machine.TOO_FEW_COINS;
            }
            if (from == to) {
                return 0;
            }
            if (n > MOST_COINS - row[to]) {
                return Machine.TOO_MANY_COINS;
            }
            row[from] -= n;
            row[to] += n;
            return 0;
        }

        int cellOf(int contract, int i) {
            int cell = contract * CELLS + i;
            return cell >= 0 && cell < ALL_CELLS ? row[CELL_PLACE + cell] : 0;
        }

        void putCell(int contract, int i, int value) {
            int cell = contract * CELLS + i;
            if (cell >= 0 && cell < ALL_CELLS) {
                row[CELL_PLACE + cell] = value;
            }
        }

        int height() {
            return row[HEIGHT_PLACE];
        }

        boolean age(int n) {
            if (n < 0 || n > MOST_AGE) {
                return false;
            }
            row[HEIGHT_PLACE] += n;
            return true;
        }

        int eventCount() {
            return row[COUNT_PLACE];
        }

        int eventAt(int i) {
            boolean there = i >= 0 && i < MOST_EVENTS && i < row[COUNT_PLACE];
            return there ? row[EVENT_PLACE + i] : 0;
        }

        void addEvent(int value) {
            int count = row[COUNT_PLACE];
            if (count >= 0 && count < MOST_EVENTS) {
                row[EVENT_PLACE + count] = value;
                row[COUNT_PLACE] = count + 1;
            }
        }

        /** Keeps a copy in one of the rooms that the row 'copies' has; false if there is none such. */
        boolean keepIn(int[] copies, int room) {
            if (copies == null || room < 0 || room >= copies.length / SIZE) {
                return false;
            }
            System.arraycopy(row, 0, copies, room * SIZE, SIZE);
            return true;
        }

        boolean bringFrom(int[] copies, int room) {
            if (copies == null || room < 0 || room >= copies.length / SIZE) {
                return false;
            }
            System.arraycopy(copies, room * SIZE, row, 0, SIZE);
            return true;
        }
    }

    /**
     * The CONTRACTS' MEMBERS and STEPS. A place is the number of a MEMBER among those of all
     * CONTRACTS, a slot that of a STEP among those of all MEMBERS.
     */
    private static final class Code {
        static final int CONTRACTS = 4, MEMBERS = 3, STEPS = 8;
        static final int PLACES = CONTRACTS * MEMBERS, SLOTS = PLACES * STEPS;
        static final int SET = 0, GET = 1, ADD = 2, LESS = 3, NEED = 4, PAY = 5, EVENT = 6;
        static final int UNLESS = 7, ASK = 8, TRY = 9, AGE = 10, PART = 11;
        /** Kinds that only MUTANTS have. */
        static final int NOTHING = 12, UNLESS_NOT = 13;
        static final int PASSED_BIT = 8, NOT_PASSED_BIT = 16;

        private int made = 0;
        private final int[] sizes = new int[PLACES];
        private final int[] covered = new int[PLACES];
        private final int[] kinds = new int[SLOTS];
        private final int[] as = new int[SLOTS];
        private final int[] bs = new int[SLOTS];

        static boolean fits(int kind, int a) {
            switch (kind) {
                case SET: case GET: case LESS: case PART: return State.isCell(a);
                case NEED: return a >= 0 && a <= 9;
                case PAY: return State.isAccount(a);
                case UNLESS: case TRY: return a >= 1 && a <= 7;
                case ASK: return Faces.isFace(a);
                case ADD: case EVENT: case AGE: return true;
                default: return false;
            }
        }

        boolean isContract(int contract) {
            return contract >= 0 && contract < made;
        }

        int contractCount() {
            return made;
        }

        int newContract() {
            if (made >= CONTRACTS) {
                return FULL;
            }
            made++;
            return made - 1;
        }

        /** Answers -1 if there is no such MEMBER. */
        int placeOf(int contract, int member) {
            boolean there = contract >= 0 && contract < made && member >= 0 && member < MEMBERS;
            return there ? contract * MEMBERS + member : -1;
        }

        int size(int place) {
            return place >= 0 && place < PLACES ? sizes[place] : 0;
        }

        int append(int place, int kind, int a, int b) {
            if (place < 0 || place >= PLACES || sizes[place] >= STEPS) {
                return FULL;
            }
            replace(place * STEPS + sizes[place], kind, a, b);
            sizes[place]++;
            return sizes[place];
        }

        void replace(int slot, int kind, int a, int b) {
            if (slot >= 0 && slot < SLOTS) {
                kinds[slot] = kind;
                as[slot] = a;
                bs[slot] = b;
            }
        }

        int kind(int slot) {
            return slot >= 0 && slot < SLOTS ? kinds[slot] : NOTHING;
        }

        int a(int slot) {
            return slot >= 0 && slot < SLOTS ? as[slot] : 0;
        }

        int b(int slot) {
            return slot >= 0 && slot < SLOTS ? bs[slot] : 0;
        }

        int coveredBits(int place) {
            return place >= 0 && place < PLACES ? covered[place] : 0;
        }

        void cover(int place, int bit) {
            if (place >= 0 && place < PLACES) {
                covered[place] |= 1 << bit;
            }
        }
    }

    /** What FACES are bound to, and their doubles within a RUN. */
    private static final class Faces {
        static final int FACES = 4, NONE = -1;
        static final int NO_DOUBLE = 0, ANSWERS = 1, THROWS = 2;

        private final int[] bound = new int[FACES];
        private final int[] doubles = new int[FACES];
        private final int[] numbers = new int[FACES];

        Faces() {
            for (int face = 0; face < FACES; face++) {
                bound[face] = NONE;
            }
        }

        static boolean isFace(int face) {
            return face >= 0 && face < FACES;
        }

        void bindTo(int face, int place) {
            if (face >= 0 && face < FACES) {
                bound[face] = place;
            }
        }

        int boundTo(int face) {
            return face >= 0 && face < FACES ? bound[face] : NONE;
        }

        int boundCount() {
            int count = 0;
            for (int face = 0; face < FACES; face++) {
                if (bound[face] != NONE) {
                    count++;
                }
            }
            return count;
        }

        /** Answers false if there is no such FACE. */
        boolean putDouble(int face, int kind, int number) {
            if (face < 0 || face >= FACES) {
                return false;
            }
            doubles[face] = kind;
            numbers[face] = number;
            return true;
        }

        void dropDoubles() {
            for (int face = 0; face < FACES; face++) {
                doubles[face] = NO_DOUBLE;
            }
        }

        int doubleOf(int face) {
            return face >= 0 && face < FACES ? doubles[face] : NO_DOUBLE;
        }

        int numberOf(int face) {
            return face >= 0 && face < FACES ? numbers[face] : 0;
        }
    }

    /**
     * Does CALLS. A THROW is a number that stands in 'thrown' until a TRY holds it or the CALL from
     * outside has ended; while it stands there no STEP begins.
     */
    private static final class Machine {
        static final int TOO_FEW_COINS = 1, TOO_MANY_COINS = 2, UNBOUND = 3, TOO_DEEP = 4;
        static final int ASK_FAILED = 5, BY_ZERO = 6, SPENT = 7, NEEDED = 10, DOUBLE = 20;
        static final int MOST_CALLS = 4, MOST_STEPS = 100, MOST_IN_ALL = 20000;
        /** Each CALL at work keeps THE STATE once for itself and once for each TRY that it is in. */
        static final int LEVELS = MOST_CALLS * (1 + Code.STEPS);

        private final State state;
        private final Code code;
        private final Faces faces;
        private final int[] copies = new int[LEVELS * State.SIZE];
        private int inAll = 0;
        private int steps = 0;
        private int thrown = 0;
        private int cause = 0;
        private int answered = 0;

        Machine(State state, Code code, Faces faces) {
            this.state = state;
            this.code = code;
            this.faces = faces;
        }

        int inAll() {
            return inAll;
        }

        int answered() {
            return answered;
        }

        boolean threw() {
            return thrown != 0;
        }

        int thrown() {
            return thrown;
        }

        int lastCause() {
            return cause;
        }

        int stepsDone() {
            return steps;
        }

        void callFromOutside(int account, int place, int argument, int coins) {
            steps = 0;
            raise(0);
            int value = oneCall(account, place, argument, coins, 1, 0);
            answered = threw() ? 0 : value;
        }

        private void raise(int number) {
            thrown = number;
            cause = number;
        }

        /** open: the CALLS at work with this one; level: the copies of THE STATE in use. */
        private int oneCall(int by, int place, int argument, int coins, int open, int level) {
            if (inAll >= MOST_IN_ALL || open > MOST_CALLS || !state.keepIn(copies, level)) {
                raise(SPENT);
                return 0;
            }
            inAll++;
            raise(state.pay(by, accountOf(place), coins));
            int value = block(place, 0, code.size(place), argument, open, level + 1);
            if (threw()) {
                state.bringFrom(copies, level);
            }
            return value;
        }

        private static int accountOf(int place) {
            return State.FIRST_OF_CONTRACTS + place / Code.MEMBERS;
        }

        /**
         * Does the STEPS from 'from' to ahead of 'end' and answers VALUE. The STEPS of a TRY are a
         * block of their own, so that whatever passes over too much within it ends it alone.
         */
        private int block(int place, int from, int end, int argument, int open, int level) {
            int value = argument;
            int next = from;
            for (int at = from; at < end; at++) {
                if (at < next || threw() || !begins(place, at)) {
                    continue;
                }
                int slot = place * Code.STEPS + at;
                int kind = code.kind(slot);
                if (kind == Code.TRY) {
                    next = Math.min(end, at + 1 + code.a(slot));
                    value = tried(place, at + 1, next, value, open, level);
                } else if (kind == Code.UNLESS || kind == Code.UNLESS_NOT) {
                    next = at + 1 + passedOver(place, at, value);
                } else if (kind == Code.ASK) {
                    value = asked(code.a(slot), accountOf(place), value, open, level);
                } else {
                    value = plainStep(place, slot, value);
                }
            }
            return value;
        }

        private boolean begins(int place, int at) {
            if (steps >= MOST_STEPS || inAll >= MOST_IN_ALL) {
                raise(SPENT);
                return false;
            }
            steps++;
            inAll++;
            code.cover(place, at);
            return true;
        }

        /** How many STEPS an UNLESS passes over. */
        private int passedOver(int place, int at, int value) {
            int slot = place * Code.STEPS + at;
            boolean below = value < code.b(slot);
            boolean passes = code.kind(slot) == Code.UNLESS_NOT ? !below : below;
            code.cover(place, at + (passes ? Code.PASSED_BIT : Code.NOT_PASSED_BIT));
            return passes ? code.a(slot) : 0;
        }

        private int tried(int place, int from, int end, int value, int open, int level) {
            if (!state.keepIn(copies, level)) {
                raise(SPENT);
                return value;
            }
            int reached = block(place, from, end, value, open, level + 1);
            if (!threw() || thrown == SPENT) {
                return reached;
            }
            int held = thrown;
            raise(0);
            state.bringFrom(copies, level);
            return held;
        }

        private int asked(int face, int by, int value, int open, int level) {
            int answer = value;
            int place = faces.boundTo(face);
            if (faces.doubleOf(face) == Faces.ANSWERS) {
                answer = faces.numberOf(face);
            } else if (faces.doubleOf(face) == Faces.THROWS) {
                raise(DOUBLE + faces.numberOf(face));
            } else if (place == Faces.NONE) {
                raise(UNBOUND);
            } else if (open >= MOST_CALLS) {
                raise(TOO_DEEP);
            } else {
                answer = oneCall(by, place, value, 0, open + 1, level);
            }
            if (threw() && thrown != SPENT) {
                // The cause stays: it is the last one of the whole chain.
                thrown = ASK_FAILED;
            }
            return answer;
        }

        private int plainStep(int place, int slot, int value) {
            int contract = place / Code.MEMBERS;
            int a = code.a(slot);
            int b = code.b(slot);
            switch (code.kind(slot)) {
                case Code.SET:
                    state.putCell(contract, a, value);
                    return value;
                case Code.GET:
                    return state.cellOf(contract, a);
                case Code.ADD:
                    return value + b;
                case Code.LESS:
                    return value - state.cellOf(contract, a);
                case Code.NEED:
                    raise(value < b ? NEEDED + a : 0);
                    return value;
                case Code.PAY:
                    raise(state.pay(accountOf(place), a, value));
                    return value;
                case Code.EVENT:
                    state.addEvent(value);
                    return value;
                case Code.AGE:
                    return state.height();
                case Code.PART:
                    int divisor = state.cellOf(contract, a);
                    if (divisor == 0) {
                        raise(BY_ZERO);
                        return value;
                    }
                    return value / divisor;
                default:
                    return value;
            }
        }
    }

    /** The LINES of the TESTS. A slot is the number of a LINE among those of all TESTS. */
    private static final class Scripts {
        static final int TESTS = 6, LINES = 16, SLOTS = TESTS * LINES;
        static final int BY = 0, CALL = 1, GIVES = 2, THROWS = 3, STEPS = 4, COINS = 5, CELL = 6;
        static final int EVENT = 7, SUM = 8, TIME = 9, FORK = 10, BACK = 11, FACE = 12, FAILS = 13;
        /** The letters of the words above, in their order. */
        private static final long[] WORDS = {
            0x6279L, 0x63616c6cL, 0x6769766573L, 0x7468726f7773L, 0x7374657073L, 0x636f696e73L,
            0x63656c6cL, 0x6576656e74L, 0x73756dL, 0x74696d65L, 0x666f726bL, 0x6261636bL,
            0x66616365L, 0x6661696c73L,
        };

        private final int[] sizes = new int[TESTS];
        private final int[] words = new int[SLOTS];
        private final int[] as = new int[SLOTS];
        private final int[] bs = new int[SLOTS];
        private final int[] cs = new int[SLOTS];

        static boolean isTest(int test) {
            return test >= 0 && test < TESTS;
        }

        /** Answers -1 if there is no such WORD. */
        static int wordPlace(long word) {
            for (int place = 0; place < WORDS.length; place++) {
                if (WORDS[place] == word) {
                    return place;
                }
            }
            return -1;
        }

        int size(int test) {
            return test >= 0 && test < TESTS ? sizes[test] : 0;
        }

        /** Answers -1 if there is no such LINE. */
        int slotOf(int test, int i) {
            boolean there = test >= 0 && test < TESTS && i >= 0 && i < LINES && i < sizes[test];
            return there ? test * LINES + i : -1;
        }

        int append(int test, int word, int a, int b, int c) {
            if (test < 0 || test >= TESTS || sizes[test] < 0 || sizes[test] >= LINES) {
                return FULL;
            }
            int slot = test * LINES + sizes[test];
            words[slot] = word;
            as[slot] = a;
            bs[slot] = b;
            cs[slot] = c;
            sizes[test]++;
            return sizes[test];
        }

        int empty(int test) {
            if (test < 0 || test >= TESTS) {
                return 0;
            }
            int had = sizes[test];
            sizes[test] = 0;
            return had;
        }

        /** Drops the LINES whose bits are set and answers how many are left. */
        int dropLines(int test, int dropped) {
            int had = empty(test);
            for (int i = 0; i < had; i++) {
                if ((dropped >> i & 1) == 0) {
                    int slot = test * LINES + i;
                    append(test, word(slot), a(slot), b(slot), c(slot));
                }
            }
            return size(test);
        }

        /** Answers -1, which no WORD has, if there is no such slot. */
        int word(int slot) {
            return slot >= 0 && slot < SLOTS ? words[slot] : -1;
        }

        int a(int slot) {
            return slot >= 0 && slot < SLOTS ? as[slot] : 0;
        }

        int b(int slot) {
            return slot >= 0 && slot < SLOTS ? bs[slot] : 0;
        }

        int c(int slot) {
            return slot >= 0 && slot < SLOTS ? cs[slot] : 0;
        }
    }

    /** RUNS of TESTS. */
    private static final class Runner {
        static final int FORKS = 3, MOST_FAILS = 5;
        /** Behind the rooms of the FORKS. */
        static final int START_ROOM = FORKS;

        private final State state;
        private final Code code;
        private final Faces faces;
        private final Machine machine;
        private final Scripts scripts;
        private final int[] copies = new int[(FORKS + 1) * State.SIZE];
        private int by = 0;
        private int byCoins = 0;
        private int forked = 0;
        private int eventsAtStart = 0;
        private boolean called = false;

        Runner(State state, Code code, Faces faces, Machine machine, Scripts scripts) {
            this.state = state;
            this.code = code;
            this.faces = faces;
            this.machine = machine;
            this.scripts = scripts;
        }

        /**
         * A RUN of a TEST without the LINES whose bits are set in leftOut. Answers the LINE at
         * which it FAILS, numbered as in the whole TEST, or PASSES.
         */
        int failingLine(int test, int leftOut) {
            begin();
            int size = scripts.size(test);
            int failing = PASSES;
            for (int i = 0; i < size && failing == PASSES; i++) {
                if ((leftOut >> i & 1) == 1) {
                    continue;
                }
                int slot = scripts.slotOf(test, i);
                boolean isCall = scripts.word(slot) == Scripts.CALL;
                boolean told = isCall ? doesCall(test, i, leftOut) : asTold(slot);
                failing = told ? PASSES : i;
            }
            faces.dropDoubles();
            state.bringFrom(copies, START_ROOM);
            return failing;
        }

        private void begin() {
            state.keepIn(copies, START_ROOM);
            by = 0;
            byCoins = 0;
            forked = 0;
            eventsAtStart = state.eventCount();
            called = false;
        }

        private boolean doesCall(int test, int i, int leftOut) {
            int slot = scripts.slotOf(test, i);
            int place = code.placeOf(scripts.a(slot), scripts.b(slot));
            if (place < 0) {
                return false;
            }
            machine.callFromOutside(by, place, scripts.c(slot), byCoins);
            called = true;
            return !machine.threw() || nextIsThrows(test, i, leftOut);
        }

        private boolean nextIsThrows(int test, int i, int leftOut) {
            int size = scripts.size(test);
            for (int next = i + 1; next < size; next++) {
                if ((leftOut >> next & 1) == 0) {
                    return scripts.word(scripts.slotOf(test, next)) == Scripts.THROWS;
                }
            }
            return false;
        }

        /** Every LINE but a call. */
        private boolean asTold(int slot) {
            int a = scripts.a(slot);
            int b = scripts.b(slot);
            switch (scripts.word(slot)) {
                case Scripts.BY: return callsAreBy(a, b);
                case Scripts.GIVES: return called && !machine.threw() && machine.answered() == a;
                case Scripts.THROWS: return called && threwThat(a, b);
                case Scripts.STEPS: return called && machine.stepsDone() <= a;
                case Scripts.COINS: return State.isAccount(a) && state.coinsOf(a) == b;
                case Scripts.CELL: return cellIs(a, b, scripts.c(slot));
                case Scripts.EVENT: return eventIs(a, b);
                case Scripts.SUM: return state.allCoins() == a;
                case Scripts.TIME: return state.age(a);
                case Scripts.FORK: return keepsFork(a);
                case Scripts.BACK: return goesBack(a);
                case Scripts.FACE: return faces.putDouble(a, Faces.ANSWERS, b);
                case Scripts.FAILS: return faceFails(a, b);
                default: return false;
            }
        }

        /** What is no number for call() is none here, either. */
        private boolean callsAreBy(int account, int coins) {
            if (!State.isAccount(account) || coins < 0) {
                return false;
            }
            by = account;
            byCoins = coins;
            return true;
        }

        private boolean threwThat(int number, int cause) {
            return machine.threw() && machine.thrown() == number && machine.lastCause() == cause;
        }

        private boolean cellIs(int contract, int i, int value) {
            return code.isContract(contract) && State.isCell(i)
                && state.cellOf(contract, i) == value;
        }

        private boolean eventIs(int i, int value) {
            return i >= 0 && i < state.eventCount() - eventsAtStart
                && state.eventAt(eventsAtStart + i) == value;
        }

        private static boolean isFork(int fork) {
            return fork >= 0 && fork < FORKS;
        }

        private boolean keepsFork(int fork) {
            if (!isFork(fork)) {
                return false;
            }
            forked |= 1 << fork;
            return state.keepIn(copies, fork);
        }

        private boolean goesBack(int fork) {
            return isFork(fork) && (forked >> fork & 1) == 1 && state.bringFrom(copies, fork);
        }

        private boolean faceFails(int face, int number) {
            return number >= 0 && number <= MOST_FAILS
                && faces.putDouble(face, Faces.THROWS, number);
        }
    }

    /**
     * MUTANTS of CONTRACTS. One that is found is told as (MEMBER * 8 + STEP) * 2, and 1 more if it
     * is the second one of its STEP.
     */
    private static final class Mutants {
        static final int NOT_KILLED = -1, NO_MUTANT = -2;
        static final int MOST = Code.MEMBERS * Code.STEPS * 2;

        private final Code code;
        private final int[] judged = new int[Code.CONTRACTS];
        private final int[] killers = new int[Code.CONTRACTS * MOST];
        /** The STEP in whose place a MUTANT is. */
        private int slot = -1;
        private int kind = 0;
        private int a = 0;
        private int b = 0;

        Mutants(Code code) {
            this.code = code;
        }

        static int memberOf(int found) {
            return found / (Code.STEPS * 2);
        }

        static int stepOf(int found) {
            return found / 2 % Code.STEPS;
        }

        static boolean isSecond(int found) {
            return found % 2 == 1;
        }

        private static int perStep(int kind) {
            return kind == Code.ADD || kind == Code.NEED || kind == Code.UNLESS ? 2 : 1;
        }

        int howMany(int contract) {
            int count = 0;
            for (int member = 0; member < Code.MEMBERS; member++) {
                int place = code.placeOf(contract, member);
                int size = code.size(place);
                for (int at = 0; at < size; at++) {
                    count += perStep(code.kind(place * Code.STEPS + at));
                }
            }
            return count;
        }

        /** Answers -1 if there is no such MUTANT. */
        int find(int contract, int i) {
            if (i < 0) {
                return -1;
            }
            int left = i;
            for (int member = 0; member < Code.MEMBERS; member++) {
                int place = code.placeOf(contract, member);
                int size = code.size(place);
                for (int at = 0; at < size; at++) {
                    int here = perStep(code.kind(place * Code.STEPS + at));
                    if (left < here) {
                        return (member * Code.STEPS + at) * 2 + left;
                    }
                    left -= here;
                }
            }
            return -1;
        }

        /** Answers how many MUTANTS are to be judged. */
        int begin(int contract) {
            int count = Math.min(howMany(contract), MOST);
            if (contract >= 0 && contract < Code.CONTRACTS) {
                judged[contract] = count;
            }
            return count;
        }

        void putIn(int contract, int i) {
            int found = find(contract, i);
            slot = found < 0 ? -1 : contract * Code.MEMBERS * Code.STEPS + found / 2;
            kind = code.kind(slot);
            a = code.a(slot);
            b = code.b(slot);
            if (isSecond(found)) {
                putSecond();
            } else {
                putFirst();
            }
        }

        private void putFirst() {
            switch (kind) {
                case Code.ADD: case Code.NEED:
                    code.replace(slot, kind, a, b + 1);
                    break;
                case Code.UNLESS:
                    code.replace(slot, kind, a + 1, b);
                    break;
                case Code.PAY:
                    code.replace(slot, kind, (a + 1) % State.ACCOUNTS, b);
                    break;
                default:
                    code.replace(slot, Code.NOTHING, a, b);
                    break;
            }
        }

        private void putSecond() {
            switch (kind) {
                case Code.ADD:
                    code.replace(slot, kind, a, -b);
                    break;
                case Code.UNLESS:
                    code.replace(slot, Code.UNLESS_NOT, a, b);
                    break;
                default:
                    // A NEED that never THROWS does nothing.
                    code.replace(slot, Code.NOTHING, a, b);
                    break;
            }
        }

        /** Puts the STEP back and notes who killed the MUTANT. */
        void takeOut(int contract, int i, int killer) {
            code.replace(slot, kind, a, b);
            if (contract >= 0 && contract < Code.CONTRACTS && i >= 0 && i < MOST) {
                killers[contract * MOST + i] = killer;
            }
        }

        int killerOf(int contract, int i) {
            boolean there = contract >= 0 && contract < Code.CONTRACTS
                && i >= 0 && i < MOST && i < judged[contract];
            return there ? killers[contract * MOST + i] : NO_MUTANT;
        }
    }
}
