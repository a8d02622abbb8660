/**
 * A ledger with contracts, tests of them told line by line, mutants of the contracts and the
 * shortening of failing tests. The words in capitals are those of the document.
 */
public final class LedgerTests {
    public static final int BAD = -1, FULL = -2;

    private static final int NO_TEST = -2;

    private final State state;
    private final Code code;
    private final Faces faces;
    private final Machine machine;
    private final Scripts scripts;
    private final Runner runner;
    private final Mutants judging;

    public LedgerTests() {
        state = new State();
        code = new Code();
        faces = new Faces();
        machine = new Machine(state, code, faces);
        scripts = new Scripts();
        runner = new Runner(state, code, faces, machine, scripts);
        judging = new Mutants(code, runner);
    }

    public int account(int a, int coins) {
        return state.putCoins(a, coins) ? 1 : BAD;
    }

    public int contract() {
        return code.newContract();
    }

    public int step(int contract, int member, int kind, int a, int b) {
        int place = code.placeOf(contract, member);
        if (place < 0 || !Code.fits(kind, a)) {
            return BAD;
        }
        return code.append(place, kind, a, b);
    }

    public int bind(int face, int contract, int member) {
        int place = contract == -1 ? Faces.NONE : code.placeOf(contract, member);
        if (!Faces.isFace(face) || contract != -1 && place < 0) {
            return BAD;
        }
        faces.bindTo(face, place);
        return 1;
    }

    public int time(int n) {
        return state.age(n) ? state.height() : BAD;
    }

    public int call(int account, int contract, int member, int argument, int coins) {
        int place = code.placeOf(contract, member);
        if (place < 0 || !State.isAccount(account) || coins < 0) {
            return BAD;
        }
        machine.callFromOutside(account, place, argument, coins);
        return machine.threw() ? -10 - machine.thrown() : 1;
    }

    public int told(int what) {
        switch (what) {
            case 0: return machine.answered();
            case 1: return machine.thrown();
            case 2: return machine.lastCause();
            case 3: return machine.stepsDone();
            default: return 0;
        }
    }

    public int line(int test, long word, int a, int b, int c) {
        int place = Scripts.wordPlace(word);
        if (!Scripts.isTest(test) || place < 0) {
            return BAD;
        }
        return scripts.append(test, place, a, b, c);
    }

    public int clear(int test) {
        return Scripts.isTest(test) ? scripts.empty(test) : BAD;
    }

    public int run(int test) {
        return Scripts.isTest(test) ? runner.failingLine(test, 0) : NO_TEST;
    }

    public int mutants(int contract) {
        return code.isContract(contract) ? judging.howMany(contract) : BAD;
    }

    public int mutant(int contract, int i, int what) {
        if (!code.isContract(contract)) {
            return BAD;
        }
        int found = judging.find(contract, i);
        if (found < 0) {
            return BAD;
        }
        switch (what) {
            case 0: return Mutants.memberOf(found);
            case 1: return Mutants.stepOf(found);
            case 2: return Mutants.isSecond(found) ? 1 : 0;
            default: return BAD;
        }
    }

    public int judge(int contract) {
        return code.isContract(contract) ? judging.judgeAll(contract) : BAD;
    }

    public int killer(int contract, int i) {
        return judging.killerOf(contract, i);
    }

    public int shrink(int test) {
        if (!Scripts.isTest(test)) {
            return NO_TEST;
        }
        int failing = runner.failingLine(test, 0);
        if (failing < 0) {
            return -1;
        }
        return scripts.dropLines(test, runner.needlessLines(test, failing));
    }

    public int lineOf(int test, int i, int what) {
        if (!Scripts.isTest(test) || !scripts.hasLine(test, i)) {
            return 0;
        }
        switch (what) {
            case 0: return scripts.word(test, i);
            case 1: return scripts.a(test, i);
            case 2: return scripts.b(test, i);
            case 3: return scripts.c(test, i);
            default: return 0;
        }
    }

    public int covered(int contract, int member) {
        int place = code.placeOf(contract, member);
        return place < 0 ? BAD : code.coveredBits(place);
    }

    public int coins(int a) {
        return State.isAccount(a) ? state.coinsOf(a) : BAD;
    }

    public int cell(int contract, int i) {
        return code.isContract(contract) && State.isCell(i) ? state.cellOf(contract, i) : 0;
    }

    public int event(int i) {
        return state.eventAt(i);
    }

    public int count(int what) {
        switch (what) {
            case 0: return state.height();
            case 1: return state.eventCount();
            case 2: return code.contractCount();
            case 3: return machine.inAll();
            case 10: return faces.boundCount();
            default: return Scripts.isTest(what - 4) ? scripts.size(what - 4) : BAD;
        }
    }

    /** THE STATE in one row of ints, so that to keep it and to go back to it are one copy each. */
    private static final class State {
        static final int ACCOUNTS = 12, FIRST_OF_CONTRACTS = 8, CELLS = 4;
        static final int MOST_COINS = 1000000000, MOST_AGE = 1000, MOST_EVENTS = 40;
        static final int CELL_PLACE = ACCOUNTS, HEIGHT_PLACE = CELL_PLACE + 16;
        static final int COUNT_PLACE = HEIGHT_PLACE + 1, EVENT_PLACE = COUNT_PLACE + 1;
        static final int SIZE = EVENT_PLACE + MOST_EVENTS;

        private final int[] row = new int[SIZE];

        static boolean isAccount(int a) {
            return a >= 0 && a < ACCOUNTS;
        }

        static boolean isCell(int i) {
            return i >= 0 && i < CELLS;
        }

        int coinsOf(int account) {
            return isAccount(account) ? row[account] : 0;
        }

        boolean putCoins(int account, int coins) {
            if (!isAccount(account) || coins < 0 || coins > MOST_COINS) {
                return false;
            }
            row[account] = coins;
            return true;
        }

        /** A long, because twelve full ACCOUNTS have more than an int can hold. */
        long allCoins() {
            long sum = 0;
            for (int a = 0; a < ACCOUNTS; a++) {
                sum += row[a];
            }
            return sum;
        }

        /** Answers the number of the THROW, 0 if the coins went. */
        int pay(int from, int to, int n) {
            if (n < 0 || n > coinsOf(from)) {
                return Machine.TOO_FEW_COINS;
            }
            if (from == to) {
                return 0;
            }
            return putCoins(to, coinsOf(to) + n) && putCoins(from, coinsOf(from) - n)
                ? 0 : Machine.TOO_MANY_COINS;
        }

        int cellOf(int contract, int i) {
            return Code.isNumber(contract) && isCell(i) ? row[cellPlace(contract, i)] : 0;
        }

        void putCell(int contract, int i, int value) {
            if (Code.isNumber(contract) && isCell(i)) {
                row[cellPlace(contract, i)] = value;
            }
        }

        private static int cellPlace(int contract, int i) {
            return CELL_PLACE + contract * CELLS + i;
        }

        int height() {
            return row[HEIGHT_PLACE];
        }

        boolean age(int n) {
            if (n < 0 || n > MOST_AGE) {
                return false;
            }
            row[HEIGHT_PLACE] += n;
            return true;
        }

        int eventCount() {
            return row[COUNT_PLACE];
        }

        int eventAt(int i) {
            return i >= 0 && i < eventCount() && i < MOST_EVENTS ? row[EVENT_PLACE + i] : 0;
        }

        void addEvent(int value) {
            int count = eventCount();
            if (count >= 0 && count < MOST_EVENTS) {
                row[EVENT_PLACE + count] = value;
                row[COUNT_PLACE] = count + 1;
            }
        }

        boolean copyTo(int[] rows, int from) {
            if (!fitsIn(rows, from)) {
                return false;
            }
            System.arraycopy(row, 0, rows, from, SIZE);
            return true;
        }

        boolean copyFrom(int[] rows, int from) {
            if (!fitsIn(rows, from)) {
                return false;
            }
            System.arraycopy(rows, from, row, 0, SIZE);
            return true;
        }

        private static boolean fitsIn(int[] rows, int from) {
            return rows != null && from >= 0 && from <= rows.length - SIZE;
        }
    }

    /** Rooms for copies of THE STATE, made once and used again. */
    private static final class Copies {
        private final int[] rows;

        Copies(int rooms) {
            rows = new int[Math.max(rooms, 0) * State.SIZE];
        }

        /** Answers false, and keeps nothing, where there is no such room. */
        boolean keep(State state, int room) {
            return state.copyTo(rows, room * State.SIZE);
        }

        boolean bringBack(State state, int room) {
            return state.copyFrom(rows, room * State.SIZE);
        }
    }

    /**
     * The CONTRACTS' MEMBERS and STEPS. A place is the number of a MEMBER among all MEMBERS of all
     * CONTRACTS.
     */
    private static final class Code {
        static final int CONTRACTS = 4, MEMBERS = 3, STEPS = 8, PLACES = CONTRACTS * MEMBERS;
        static final int SET = 0, GET = 1, ADD = 2, LESS = 3, NEED = 4, PAY = 5, EVENT = 6;
        static final int UNLESS = 7, ASK = 8, TRY = 9, AGE = 10, PART = 11;
        /** Kinds that only MUTANTS have. */
        static final int NOTHING = 12, UNLESS_NOT = 13;
        static final int PASSED_BIT = 8, NOT_PASSED_BIT = 16;

        private int made = 0;
        private final int[] sizes = new int[PLACES];
        private final int[] covered = new int[PLACES];
        private final int[] kinds = new int[PLACES * STEPS];
        private final int[] as = new int[PLACES * STEPS];
        private final int[] bs = new int[PLACES * STEPS];

        static boolean isNumber(int contract) {
            return contract >= 0 && contract < CONTRACTS;
        }

        static boolean isPlace(int place) {
            return place >= 0 && place < PLACES;
        }

        static boolean fits(int kind, int a) {
            switch (kind) {
                case SET: case GET: case LESS: case PART: return State.isCell(a);
                case NEED: return a >= 0 && a <= 9;
                case PAY: return State.isAccount(a);
                case UNLESS: case TRY: return a >= 1 && a <= 7;
                case ASK: return Faces.isFace(a);
                case ADD: case EVENT: case AGE: return true;
                default: return false;
            }
        }

        boolean isContract(int contract) {
            return contract >= 0 && contract < made;
        }

        int contractCount() {
            return made;
        }

        int newContract() {
            if (made >= CONTRACTS) {
                return FULL;
            }
            made++;
            return made - 1;
        }

        /** Answers -1 if there is no such MEMBER. */
        int placeOf(int contract, int member) {
            boolean there = isContract(contract) && member >= 0 && member < MEMBERS;
            return there ? contract * MEMBERS + member : -1;
        }

        static int contractOf(int place) {
            return place / MEMBERS;
        }

        int size(int place) {
            return isPlace(place) ? sizes[place] : 0;
        }

        int append(int place, int kind, int a, int b) {
            int at = size(place);
            if (!isPlace(place) || at >= STEPS) {
                return FULL;
            }
            replace(place, at, kind, a, b);
            sizes[place] = at + 1;
            return at + 1;
        }

        void replace(int place, int at, int kind, int a, int b) {
            if (isStep(place, at)) {
                int slot = place * STEPS + at;
                kinds[slot] = kind;
                as[slot] = a;
                bs[slot] = b;
            }
        }

        private static boolean isStep(int place, int at) {
            return isPlace(place) && at >= 0 && at < STEPS;
        }

        int kind(int place, int at) {
            return isStep(place, at) ? kinds[place * STEPS + at] : NOTHING;
        }

        int a(int place, int at) {
            return isStep(place, at) ? as[place * STEPS + at] : 0;
        }

        int b(int place, int at) {
            return isStep(place, at) ? bs[place * STEPS + at] : 0;
        }

        int coveredBits(int place) {
            return isPlace(place) ? covered[place] : 0;
        }

        void cover(int place, int bit) {
            if (isPlace(place)) {
                covered[place] |= 1 << bit;
            }
        }
    }

    /** What FACES are bound to, and their doubles within a RUN. */
    private static final class Faces {
        static final int FACES = 4, NONE = -1;
        static final int NO_DOUBLE = 0, ANSWERS = 1, THROWS = 2;

        private final int[] bound = new int[FACES];
        private final int[] doubles = new int[FACES];
        private final int[] numbers = new int[FACES];

        Faces() {
            for (int face = 0; face < FACES; face++) {
                bound[face] = NONE;
            }
        }

        static boolean isFace(int face) {
            return face >= 0 && face < FACES;
        }

        void bindTo(int face, int place) {
            if (isFace(face)) {
                bound[face] = place;
            }
        }

        int boundTo(int face) {
            return isFace(face) ? bound[face] : NONE;
        }

        int boundCount() {
            int count = 0;
            for (int face = 0; face < FACES; face++) {
                if (bound[face] != NONE) {
                    count++;
                }
            }
            return count;
        }

        boolean putDouble(int face, int kind, int number) {
            if (!isFace(face)) {
                return false;
            }
            doubles[face] = kind;
            numbers[face] = number;
            return true;
        }

        void dropDoubles() {
            for (int face = 0; face < FACES; face++) {
                doubles[face] = NO_DOUBLE;
            }
        }

        int doubleOf(int face) {
            return isFace(face) ? doubles[face] : NO_DOUBLE;
        }

        int numberOf(int face) {
            return isFace(face) ? numbers[face] : 0;
        }
    }

    /**
     * Does CALLS. A THROW is a number that stands in 'thrown' until a TRY holds it or the CALL from
     * outside has ended; while it stands there no STEP begins.
     */
    private static final class Machine {
        static final int TOO_FEW_COINS = 1, TOO_MANY_COINS = 2, UNBOUND = 3, TOO_DEEP = 4;
        static final int ASK_FAILED = 5, BY_ZERO = 6, SPENT = 7, NEEDED = 10, DOUBLE = 20;
        static final int MOST_CALLS = 4, MOST_STEPS = 100, MOST_IN_ALL = 20000;
        /** Each CALL at work keeps THE STATE once for itself and once for each TRY that it is in. */
        static final int LEVELS = MOST_CALLS * (1 + Code.STEPS);

        private final State state;
        private final Code code;
        private final Faces faces;
        private final Copies copies = new Copies(LEVELS);
        private int inAll = 0;
        private int steps = 0;
        private int thrown = 0;
        private int cause = 0;
        private int answered = 0;

        Machine(State state, Code code, Faces faces) {
            this.state = state;
            this.code = code;
            this.faces = faces;
        }

        int inAll() {
            return inAll;
        }

        int answered() {
            return answered;
        }

        boolean threw() {
            return thrown != 0;
        }

        int thrown() {
            return thrown;
        }

        int lastCause() {
            return cause;
        }

        int stepsDone() {
            return steps;
        }

        void callFromOutside(int account, int place, int argument, int coins) {
            steps = 0;
            raise(0);
            int value = oneCall(account, place, argument, coins, 1, 0);
            answered = threw() ? 0 : value;
        }

        private void raise(int number) {
            thrown = number;
            cause = number;
        }

        /** open: the CALLS at work with this one; level: the copies of THE STATE in use. */
        private int oneCall(int by, int place, int argument, int coins, int open, int level) {
            if (inAll >= MOST_IN_ALL || open > MOST_CALLS || !copies.keep(state, level)) {
                raise(SPENT);
                return 0;
            }
            inAll++;
            raise(state.pay(by, accountOf(place), coins));
            int value = block(place, 0, code.size(place), argument, open, level + 1);
            if (threw()) {
                copies.bringBack(state, level);
            }
            return value;
        }

        private static int accountOf(int place) {
            return State.FIRST_OF_CONTRACTS + Code.contractOf(place);
        }

        /**
         * Does the STEPS from 'from' to ahead of 'end' and answers VALUE. The block of a TRY is a
         * block of its own, so that whatever passes over too much within it ends it alone.
         */
        private int block(int place, int from, int end, int argument, int open, int level) {
            int value = argument;
            int next = from;
            for (int at = from; at < end; at++) {
                if (at < next || threw() || !begins(place, at)) {
                    continue;
                }
                int kind = code.kind(place, at);
                int a = code.a(place, at);
                next = at + 1;
                if (kind == Code.TRY) {
                    next = Math.min(end, at + 1 + a);
                    value = tried(place, at + 1, next, value, open, level);
                } else if (kind == Code.UNLESS || kind == Code.UNLESS_NOT) {
                    next = at + 1 + (passesOver(place, at, value) ? a : 0);
                } else if (kind == Code.ASK) {
                    value = asked(a, accountOf(place), value, open, level);
                } else {
                    value = plainStep(place, at, value);
                }
            }
            return value;
        }

        private boolean begins(int place, int at) {
            if (steps >= MOST_STEPS || inAll >= MOST_IN_ALL) {
                raise(SPENT);
                return false;
            }
            steps++;
            inAll++;
            code.cover(place, at);
            return true;
        }

        private boolean passesOver(int place, int at, int value) {
            boolean below = value < code.b(place, at);
            boolean passes = code.kind(place, at) == Code.UNLESS_NOT ? !below : below;
            code.cover(place, at + (passes ? Code.PASSED_BIT : Code.NOT_PASSED_BIT));
            return passes;
        }

        private int tried(int place, int from, int end, int value, int open, int level) {
            if (!copies.keep(state, level)) {
                raise(SPENT);
                return value;
            }
            int reached = block(place, from, end, value, open, level + 1);
            if (!threw() || thrown == SPENT) {
                return reached;
            }
            int held = thrown;
            raise(0);
            copies.bringBack(state, level);
            return held;
        }

        private int asked(int face, int by, int value, int open, int level) {
            int answer = value;
            int place = faces.boundTo(face);
            if (faces.doubleOf(face) == Faces.ANSWERS) {
                answer = faces.numberOf(face);
            } else if (faces.doubleOf(face) == Faces.THROWS) {
                raise(DOUBLE + faces.numberOf(face));
            } else if (place == Faces.NONE) {
                raise(UNBOUND);
            } else if (open >= MOST_CALLS) {
                raise(TOO_DEEP);
            } else {
                answer = oneCall(by, place, value, 0, open + 1, level);
            }
            if (threw() && thrown != SPENT) {
                // The cause stays: it is the last one of the whole chain.
                thrown = ASK_FAILED;
            }
            return answer;
        }

        private int plainStep(int place, int at, int value) {
            int contract = Code.contractOf(place);
            int a = code.a(place, at);
            int b = code.b(place, at);
            switch (code.kind(place, at)) {
                case Code.SET:
                    state.putCell(contract, a, value);
                    return value;
                case Code.GET:
                    return state.cellOf(contract, a);
                case Code.ADD:
                    return value + b;
                case Code.LESS:
                    return value - state.cellOf(contract, a);
                case Code.NEED:
                    raise(value < b ? NEEDED + a : 0);
                    return value;
                case Code.PAY:
                    raise(state.pay(accountOf(place), a, value));
                    return value;
                case Code.EVENT:
                    state.addEvent(value);
                    return value;
                case Code.AGE:
                    return state.height();
                case Code.PART:
                    return part(value, state.cellOf(contract, a));
                default:
                    return value;
            }
        }

        private int part(int value, int divisor) {
            if (divisor == 0) {
                raise(BY_ZERO);
                return value;
            }
            return value / divisor;
        }
    }

    /** The LINES of the TESTS. */
    private static final class Scripts {
        static final int TESTS = 6, LINES = 16;
        static final int BY = 0, CALL = 1, GIVES = 2, THROWS = 3, STEPS = 4, COINS = 5, CELL = 6;
        static final int EVENT = 7, SUM = 8, TIME = 9, FORK = 10, BACK = 11, FACE = 12, FAILS = 13;
        /** The letters of the words above, in their order. */
        private static final long[] WORDS = {
            0x6279L, 0x63616c6cL, 0x6769766573L, 0x7468726f7773L, 0x7374657073L, 0x636f696e73L,
            0x63656c6cL, 0x6576656e74L, 0x73756dL, 0x74696d65L, 0x666f726bL, 0x6261636bL,
            0x66616365L, 0x6661696c73L,
        };

        private final int[] sizes = new int[TESTS];
        private final int[] words = new int[TESTS * LINES];
        private final int[] as = new int[TESTS * LINES];
        private final int[] bs = new int[TESTS * LINES];
        private final int[] cs = new int[TESTS * LINES];

        static boolean isTest(int test) {
            return test >= 0 && test < TESTS;
        }

        /** Answers -1 if there is no such WORD. */
        static int wordPlace(long word) {
            for (int place = 0; place < WORDS.length; place++) {
                if (WORDS[place] == word) {
                    return place;
                }
            }
            return -1;
        }

        int size(int test) {
            return isTest(test) ? sizes[test] : 0;
        }

        boolean hasLine(int test, int i) {
            return i >= 0 && i < LINES && i < size(test);
        }

        int append(int test, int word, int a, int b, int c) {
            int i = size(test);
            if (!isTest(test) || i >= LINES) {
                return FULL;
            }
            int slot = test * LINES + i;
            words[slot] = word;
            as[slot] = a;
            bs[slot] = b;
            cs[slot] = c;
            sizes[test] = i + 1;
            return i + 1;
        }

        int empty(int test) {
            int had = size(test);
            if (isTest(test)) {
                sizes[test] = 0;
            }
            return had;
        }

        /** Drops the LINES whose bits are set and answers how many are left. */
        int dropLines(int test, int dropped) {
            int had = empty(test);
            for (int i = 0; i < had; i++) {
                int slot = test * LINES + i;
                if ((dropped >> i & 1) == 0 && isSlot(slot)) {
                    append(test, words[slot], as[slot], bs[slot], cs[slot]);
                }
            }
            return size(test);
        }

        private static boolean isSlot(int slot) {
            return slot >= 0 && slot < TESTS * LINES;
        }

        /** Answers -1, which no WORD has, if there is no such LINE. */
        int word(int test, int i) {
            return hasLine(test, i) ? words[test * LINES + i] : -1;
        }

        int a(int test, int i) {
            return hasLine(test, i) ? as[test * LINES + i] : 0;
        }

        int b(int test, int i) {
            return hasLine(test, i) ? bs[test * LINES + i] : 0;
        }

        int c(int test, int i) {
            return hasLine(test, i) ? cs[test * LINES + i] : 0;
        }
    }

    /** RUNS of TESTS. */
    private static final class Runner {
        static final int FORKS = 3, MOST_FAILS = 5;
        /** Behind the rooms of the FORKS. */
        static final int START_ROOM = FORKS;

        private final State state;
        private final Code code;
        private final Faces faces;
        private final Machine machine;
        private final Scripts scripts;
        private final Copies copies = new Copies(FORKS + 1);
        private int by = 0;
        private int byCoins = 0;
        private int forked = 0;
        private int eventsAtStart = 0;
        private boolean called = false;

        Runner(State state, Code code, Faces faces, Machine machine, Scripts scripts) {
            this.state = state;
            this.code = code;
            this.faces = faces;
            this.machine = machine;
            this.scripts = scripts;
        }

        /**
         * A RUN of a TEST without the LINES whose bits are set in leftOut. Answers the LINE at
         * which it FAILS, numbered as in the whole TEST, or -1.
         */
        int failingLine(int test, int leftOut) {
            begin();
            int size = scripts.size(test);
            int failing = -1;
            for (int i = 0; i < size && failing < 0; i++) {
                if ((leftOut >> i & 1) == 0 && !asTold(test, i, leftOut)) {
                    failing = i;
                }
            }
            faces.dropDoubles();
            copies.bringBack(state, START_ROOM);
            return failing;
        }

        private void begin() {
            copies.keep(state, START_ROOM);
            by = 0;
            byCoins = 0;
            forked = 0;
            eventsAtStart = state.eventCount();
            called = false;
        }

        /** The LINES, as bits, that a TEST can lose and still FAIL at the LINE 'failing'. */
        int needlessLines(int test, int failing) {
            int dropped = 0;
            // Each round but the last one drops a LINE.
            for (int round = 0; round <= Scripts.LINES; round++) {
                int before = dropped;
                dropped = withoutEach(test, failing, dropped);
                if (dropped == before) {
                    break;
                }
            }
            return dropped;
        }

        private int withoutEach(int test, int failing, int leftOut) {
            int dropped = leftOut;
            int size = scripts.size(test);
            for (int i = 0; i < size; i++) {
                int fewer = dropped | 1 << i;
                if (fewer != dropped && failingLine(test, fewer) == failing) {
                    dropped = fewer;
                }
            }
            return dropped;
        }

        private boolean asTold(int test, int i, int leftOut) {
            int a = scripts.a(test, i);
            int b = scripts.b(test, i);
            int c = scripts.c(test, i);
            switch (scripts.word(test, i)) {
                case Scripts.BY: return callsAreBy(a, b);
                case Scripts.CALL: return doesCall(a, b, c, nextIsThrows(test, i, leftOut));
                case Scripts.GIVES: return called && !machine.threw() && machine.answered() == a;
                case Scripts.THROWS: return called && threwThat(a, b);
                case Scripts.STEPS: return called && machine.stepsDone() <= a;
                case Scripts.COINS: return State.isAccount(a) && state.coinsOf(a) == b;
                case Scripts.CELL: return cellIs(a, b, c);
                case Scripts.EVENT: return eventIs(a, b);
                case Scripts.SUM: return state.allCoins() == a;
                case Scripts.TIME: return state.age(a);
                case Scripts.FORK: return keepsFork(a);
                case Scripts.BACK: return goesBack(a);
                case Scripts.FACE: return faces.putDouble(a, Faces.ANSWERS, b);
                case Scripts.FAILS: return faceFails(a, b);
                default: return false;
            }
        }

        private boolean callsAreBy(int account, int coins) {
            if (!State.isAccount(account)) {
                return false;
            }
            by = account;
            byCoins = coins;
            return true;
        }

        private boolean doesCall(int contract, int member, int argument, boolean mayThrow) {
            int place = code.placeOf(contract, member);
            if (place < 0) {
                return false;
            }
            machine.callFromOutside(by, place, argument, byCoins);
            called = true;
            return mayThrow || !machine.threw();
        }

        private boolean nextIsThrows(int test, int i, int leftOut) {
            int size = scripts.size(test);
            for (int next = i + 1; next < size; next++) {
                if ((leftOut >> next & 1) == 0) {
                    return scripts.word(test, next) == Scripts.THROWS;
                }
            }
            return false;
        }

        private boolean threwThat(int number, int cause) {
            return machine.threw() && machine.thrown() == number && machine.lastCause() == cause;
        }

        private boolean cellIs(int contract, int i, int value) {
            return code.isContract(contract) && State.isCell(i)
                && state.cellOf(contract, i) == value;
        }

        private boolean eventIs(int i, int value) {
            return i >= 0 && i < state.eventCount() - eventsAtStart
                && state.eventAt(eventsAtStart + i) == value;
        }

        private static boolean isFork(int fork) {
            return fork >= 0 && fork < FORKS;
        }

        private boolean keepsFork(int fork) {
            if (!isFork(fork)) {
                return false;
            }
            forked |= 1 << fork;
            return copies.keep(state, fork);
        }

        private boolean goesBack(int fork) {
            if (!isFork(fork) || (forked >> fork & 1) == 0) {
                return false;
            }
            return copies.bringBack(state, fork);
        }

        private boolean faceFails(int face, int number) {
            return number >= 0 && number <= MOST_FAILS
                && faces.putDouble(face, Faces.THROWS, number);
        }
    }

    /**
     * MUTANTS of CONTRACTS. One that is found is told as (MEMBER * 8 + STEP) * 2, and 1 more if it
     * is the second one of its STEP.
     */
    private static final class Mutants {
        static final int MOST = Code.MEMBERS * Code.STEPS * 2;
        static final int NOT_KILLED = -1, NO_MUTANT = -2;

        private final Code code;
        private final Runner runner;
        private final int[] judged = new int[Code.CONTRACTS];
        private final int[] killers = new int[Code.CONTRACTS * MOST];

        Mutants(Code code, Runner runner) {
            this.code = code;
            this.runner = runner;
        }

        static int memberOf(int found) {
            return found / (Code.STEPS * 2);
        }

        static int stepOf(int found) {
            return found / 2 % Code.STEPS;
        }

        static boolean isSecond(int found) {
            return found % 2 == 1;
        }

        private static int perStep(int kind) {
            return kind == Code.ADD || kind == Code.NEED || kind == Code.UNLESS ? 2 : 1;
        }

        int howMany(int contract) {
            int count = 0;
            for (int member = 0; member < Code.MEMBERS; member++) {
                count += ofMember(code.placeOf(contract, member));
            }
            return count;
        }

        private int ofMember(int place) {
            int count = 0;
            int size = code.size(place);
            for (int at = 0; at < size; at++) {
                count += perStep(code.kind(place, at));
            }
            return count;
        }

        /** Answers -1 if there is no such MUTANT. */
        int find(int contract, int i) {
            if (i < 0) {
                return -1;
            }
            int left = i;
            for (int member = 0; member < Code.MEMBERS; member++) {
                int place = code.placeOf(contract, member);
                int size = code.size(place);
                for (int at = 0; at < size; at++) {
                    int here = perStep(code.kind(place, at));
                    if (left < here) {
                        return (member * Code.STEPS + at) * 2 + left;
                    }
                    left -= here;
                }
            }
            return -1;
        }

        int judgeAll(int contract) {
            int count = Math.min(howMany(contract), MOST);
            int passed = passedTests();
            int killed = 0;
            for (int i = 0; i < count; i++) {
                int killer = killerAmong(passed, contract, i);
                if (killer != NOT_KILLED) {
                    killed++;
                }
                note(contract, i, killer);
            }
            if (Code.isNumber(contract)) {
                judged[contract] = count;
            }
            return killed;
        }

        private void note(int contract, int i, int killer) {
            if (Code.isNumber(contract) && i >= 0 && i < MOST) {
                killers[contract * MOST + i] = killer;
            }
        }

        int killerOf(int contract, int i) {
            boolean there = Code.isNumber(contract) && i >= 0 && i < MOST && i < judged[contract];
            return there ? killers[contract * MOST + i] : NO_MUTANT;
        }

        private int passedTests() {
            int passed = 0;
            for (int test = 0; test < Scripts.TESTS; test++) {
                if (runner.failingLine(test, 0) < 0) {
                    passed |= 1 << test;
                }
            }
            return passed;
        }

        private int killerAmong(int tests, int contract, int i) {
            int found = find(contract, i);
            if (found < 0) {
                return NOT_KILLED;
            }
            int place = code.placeOf(contract, memberOf(found));
            int at = stepOf(found);
            int kind = code.kind(place, at);
            int a = code.a(place, at);
            int b = code.b(place, at);
            alter(place, at, isSecond(found));
            int killer = firstFailing(tests);
            code.replace(place, at, kind, a, b);
            return killer;
        }

        private int firstFailing(int tests) {
            for (int test = 0; test < Scripts.TESTS; test++) {
                if ((tests >> test & 1) == 1 && runner.failingLine(test, 0) >= 0) {
                    return test;
                }
            }
            return NOT_KILLED;
        }

        private void alter(int place, int at, boolean second) {
            int a = code.a(place, at);
            int b = code.b(place, at);
            switch (code.kind(place, at)) {
                case Code.ADD:
                    code.replace(place, at, Code.ADD, a, second ? -b : b + 1);
                    break;
                case Code.NEED:
                    // A NEED that never THROWS does nothing.
                    code.replace(place, at, second ? Code.NOTHING : Code.NEED, a, b + 1);
                    break;
                case Code.UNLESS:
                    code.replace(place, at, second ? Code.UNLESS_NOT : Code.UNLESS,
                        second ? a : a + 1, b);
                    break;
                case Code.PAY:
                    code.replace(place, at, Code.PAY, (a + 1) % State.ACCOUNTS, b);
                    break;
                default:
                    code.replace(place, at, Code.NOTHING, a, b);
                    break;
            }
        }
    }
}
