/**
 * Codes of one small machine: told instruction by instruction, judged by kinds, and run step by step
 * with objects, monitors and several threads.
 */
public final class JudgedCodes {
    private static final int WRONG = -1;
    private static final int FULL = -12;
    private static final int MISSING = -14;

    private static final int MOST_CODES = 40;
    private static final int MOST_LOCALS = 8;
    private static final int MOST_INSTRUCTIONS = 60;
    private static final int MOST_ROWS = 20;
    private static final int MOST_VALUES = 12;
    private static final int MOST_THREADS = 8;
    private static final int MOST_FRAMES = 30;
    private static final int MOST_STEPS = 10000;
    private static final int MOST_OBJECTS = 2000;
    private static final int MOST_OBJECTS_FOR_LIFE = 40000;
    private static final int FIELDS = 8;
    private static final int GLOBALS = 4;

    private static final int NO_KIND = 0;
    private static final int INT = 1;
    private static final int REF = 2;

    private static final int LAST_OBJECT_KIND = 9;
    private static final int ANY_OBJECT_KIND = 10;

    private static final int NO_FAILURE = 0;
    private static final int NULL_FAILURE = 6;
    private static final int DIVISION_FAILURE = 7;
    private static final int MONITOR_FAILURE = 8;
    private static final int DEPTH_FAILURE = 9;

    private static final int PUSH = 0;
    private static final int NULL = 1;
    private static final int POP = 2;
    private static final int DUP = 3;
    private static final int ADD = 4;
    private static final int SUB = 5;
    private static final int MUL = 6;
    private static final int DIV = 7;
    private static final int LESS = 8;
    private static final int LOAD = 9;
    private static final int STORE = 10;
    private static final int JUMP = 11;
    private static final int ZERO = 12;
    private static final int NONE = 13;
    private static final int NEW = 14;
    private static final int IS = 15;
    private static final int GET = 16;
    private static final int PUT = 17;
    private static final int CALL = 18;
    private static final int THROW = 19;
    private static final int ENTER = 20;
    private static final int LEAVE = 21;
    private static final int RETURN = 22;
    private static final int REF_GET = 23;
    private static final int REF_PUT = 24;
    private static final int GLOBAL = 25;
    private static final int SET_GLOBAL = 26;

    private static final int MAY_GO_ON = 0;
    private static final int ENDED = 1;
    private static final int ENDED_BY_FAILURE = 2;
    private static final int WAITS = 3;

    /** What told() asks for that a thread alone cannot tell: it hangs on who holds the monitor. */
    private static final int AWAITED = 6;

    private final Codes codes;
    private final Judge judge;
    private final Heap heap;
    private final Machine machine;

    public JudgedCodes() {
        codes = new Codes();
        judge = new Judge(codes);
        heap = new Heap();
        machine = new Machine(codes, judge, heap);
    }

    public int code(int parameters, int result) {
        if (!isWithin(parameters, 0, MOST_LOCALS) || !isWithin(result, NO_KIND, REF) || machine.hasStrands()) {
            return WRONG;
        }
        return codes.begin(parameters, result);
    }

    public int local(int kind) {
        Code open = codes.open();
        if (open == null) {
            return MISSING;
        }
        return isWithin(kind, INT, REF) ? open.tellLocal(kind) : WRONG;
    }

    public int add(int op, int a) {
        Code open = codes.open();
        if (open == null) {
            return MISSING;
        }
        return fits(op, a) ? open.tellInstruction(op, a) : WRONG;
    }

    public int row(int from, int to, int at, int kind) {
        Code open = codes.open();
        if (open == null) {
            return MISSING;
        }
        boolean fine = isWithin(from, 0, MOST_INSTRUCTIONS) && isWithin(to, 0, MOST_INSTRUCTIONS)
                && isWithin(at, 0, MOST_INSTRUCTIONS) && isWithin(kind, 0, ANY_OBJECT_KIND);
        return fine ? open.tellRow(from, to, at, kind) : WRONG;
    }

    public int judge(int c) {
        Code named = codes.find(c);
        if (named == null) {
            return MISSING;
        }
        return judge.isGood(named) ? 1 : 0;
    }

    public int thread(int c) {
        return machine.begin(c);
    }

    public int run(int t, int n) {
        Strand strand = machine.find(t);
        if (strand == null || !isWithin(n, 0, MOST_STEPS)) {
            return MISSING;
        }
        return machine.advance(strand, n);
    }

    public int told(int t, int what) {
        Strand strand = machine.find(t);
        if (strand == null) {
            return MISSING;
        }
        return what == AWAITED ? machine.awaitedBy(strand) : strand.tell(what);
    }

    public int object(int o, int what) {
        Thing thing = heap.find(o);
        return thing == null ? MISSING : thing.tell(what);
    }

    public int value(int t, int k) {
        Strand strand = machine.find(t);
        Frame top = strand == null ? null : strand.top();
        if (top == null) {
            return 0;
        }
        return k >= 0 ? top.peek(k) : top.localAt(-1 - k);
    }

    public int global(int i) {
        return isWithin(i, 0, GLOBALS - 1) ? heap.globalAt(i) : MISSING;
    }

    public int stuck() {
        return machine.countStuck();
    }

    public void reset() {
        codes.close();
        machine.clear();
        heap.clear();
    }

    private static boolean isWithin(int number, int least, int most) {
        return number >= least && number <= most;
    }

    /** Locals, places and codes are not looked at here: they may still be told before one judges. */
    private static boolean fits(int op, int a) {
        return switch (op) {
            case NEW, IS -> isWithin(a, 0, LAST_OBJECT_KIND);
            case GET, PUT -> isWithin(a, 0, 3);
            case REF_GET, REF_PUT -> isWithin(a, 4, FIELDS - 1);
            case GLOBAL, SET_GLOBAL -> isWithin(a, 0, GLOBALS - 1);
            default -> isWithin(op, PUSH, SET_GLOBAL);
        };
    }

    private static boolean isJump(int op) {
        return op == JUMP || op == ZERO || op == NONE;
    }

    /** Whether nothing goes on from such an instruction to the next one. */
    private static boolean isLast(int op) {
        return op == JUMP || op == THROW || op == RETURN;
    }

    /** A row that takes failures. */
    private static final class Row {
        final int from;
        final int to;
        final int at;
        final int kind;

        Row(int from, int to, int at, int kind) {
            this.from = from;
            this.to = to;
            this.at = at;
            this.kind = kind;
        }

        boolean takes(int instruction, int objectKind) {
            return instruction >= from && instruction < to && (kind == ANY_OBJECT_KIND || kind == objectKind);
        }
    }

    /** One code as it was told, good or not. */
    private static final class Code {
        final int number;
        final int parameters;
        final int result;
        private final int[] localKinds = new int[MOST_LOCALS];
        private final int[] ops = new int[MOST_INSTRUCTIONS];
        private final int[] operands = new int[MOST_INSTRUCTIONS];
        private final Row[] rows = new Row[MOST_ROWS];
        private int localCount;
        private int size;
        private int rowCount;

        Code(int number, int parameters, int result) {
            this.number = number;
            this.parameters = parameters;
            this.result = result;
        }

        int tellLocal(int kind) {
            if (localCount >= MOST_LOCALS) {
                return FULL;
            }
            localKinds[localCount] = kind;
            localCount++;
            return localCount;
        }

        int tellInstruction(int op, int a) {
            if (size >= MOST_INSTRUCTIONS) {
                return FULL;
            }
            ops[size] = op;
            operands[size] = a;
            size++;
            return size - 1;
        }

        int tellRow(int from, int to, int at, int kind) {
            if (rowCount >= MOST_ROWS) {
                return FULL;
            }
            rows[rowCount] = new Row(from, to, at, kind);
            rowCount++;
            return rowCount;
        }

        int size() {
            return size;
        }

        int localCount() {
            return localCount;
        }

        int rowCount() {
            return rowCount;
        }

        /** The kind of a local, or NO_KIND, which no value has, where there is no such local. */
        int localKind(int i) {
            return i >= 0 && i < localCount ? localKinds[i] : NO_KIND;
        }

        int op(int i) {
            return i >= 0 && i < size ? ops[i] : -1;
        }

        int operand(int i) {
            return i >= 0 && i < size ? operands[i] : 0;
        }

        Row rowAt(int i) {
            return i >= 0 && i < rowCount ? rows[i] : null;
        }

        boolean hasInstruction(int place) {
            return place >= 0 && place < size;
        }

        /** Where a failure at an instruction goes on, or -1 if no row takes it. */
        int takerOf(int instruction, int objectKind) {
            for (int i = 0; i < rowCount; i++) {
                Row row = rowAt(i);
                if (row != null && row.takes(instruction, objectKind)) {
                    return row.at;
                }
            }
            return -1;
        }
    }

    /** All codes, and which of them is open. */
    private static final class Codes {
        private final Code[] all = new Code[MOST_CODES];
        private int count;
        private Code open;

        int begin(int parameters, int result) {
            if (count >= MOST_CODES) {
                return FULL;
            }
            open = new Code(count, parameters, result);
            all[count] = open;
            count++;
            return count - 1;
        }

        Code open() {
            return open;
        }

        void close() {
            open = null;
        }

        Code find(int c) {
            return c >= 0 && c < count ? all[c] : null;
        }
    }

    /** Judges codes by following the kinds of their values once, from the first instruction to the last. */
    private static final class Judge {
        private static final int PLAIN = 0;
        private static final int LABEL = 1;
        private static final int TAKER = 2;

        private final Codes codes;
        private final int[] marks = new int[MOST_INSTRUCTIONS + 1];
        private final int[] kinds = new int[MOST_VALUES];
        private final int[] reached = new int[MOST_CODES];
        private final boolean[] isReached = new boolean[MOST_CODES];
        private int reachedCount;
        private int depth;
        private boolean good;

        Judge(Codes codes) {
            this.codes = codes;
        }

        boolean isGood(Code code) {
            good = code.size() > 0 && isLast(code.op(code.size() - 1)) && code.localCount() >= code.parameters
                    && namesJumpPlaces(code) && namesRowPlaces(code);
            if (!good) {
                return false;
            }
            markPlaces(code);
            depth = 0;
            for (int i = 0; i < code.size() && good; i++) {
                arrive(i, i == 0 || !isLast(code.op(i - 1)));
                follow(code, code.op(i), code.operand(i));
            }
            return good;
        }

        /** Whether a code, and every code that calls lead to from it, is good. */
        boolean isGoodThroughout(Code first) {
            for (int i = 0; i < MOST_CODES; i++) {
                isReached[i] = false;
            }
            reachedCount = 0;
            reach(first);
            for (int i = 0; i < MOST_CODES && i < reachedCount; i++) {
                Code code = codes.find(reached[i]);
                if (code == null || !isGood(code)) {
                    return false;
                }
                reachCallsOf(code);
            }
            return true;
        }

        private void reachCallsOf(Code code) {
            for (int i = 0; i < code.size(); i++) {
                if (code.op(i) == CALL) {
                    reach(codes.find(code.operand(i)));
                }
            }
        }

        private void reach(Code code) {
            if (code != null && !isReached[code.number] && reachedCount < MOST_CODES) {
                isReached[code.number] = true;
                reached[reachedCount] = code.number;
                reachedCount++;
            }
        }

        private boolean namesJumpPlaces(Code code) {
            for (int i = 0; i < code.size(); i++) {
                if (isJump(code.op(i)) && !code.hasInstruction(code.operand(i))) {
                    return false;
                }
            }
            return true;
        }

        private boolean namesRowPlaces(Code code) {
            for (int i = 0; i < code.rowCount(); i++) {
                Row row = code.rowAt(i);
                if (row == null || row.from >= row.to || row.to > code.size() || !code.hasInstruction(row.at)) {
                    return false;
                }
            }
            return true;
        }

        private void markPlaces(Code code) {
            for (int i = 0; i <= MOST_INSTRUCTIONS; i++) {
                marks[i] = PLAIN;
            }
            for (int i = 0; i < code.size(); i++) {
                if (isJump(code.op(i))) {
                    mark(code.operand(i), LABEL);
                }
            }
            for (int i = 0; i < code.rowCount(); i++) {
                Row row = code.rowAt(i);
                if (row != null) {
                    mark(row.from, LABEL);
                    mark(row.to, LABEL);
                    mark(row.at, TAKER);
                }
            }
        }

        /** A taker stays one, whatever else names its place. */
        private void mark(int place, int as) {
            if (place >= 0 && place <= MOST_INSTRUCTIONS) {
                marks[place] = Math.max(marks[place], as);
            }
        }

        private int markAt(int place) {
            return place >= 0 && place <= MOST_INSTRUCTIONS ? marks[place] : PLAIN;
        }

        private void arrive(int place, boolean goesOn) {
            int here = markAt(place);
            if (goesOn) {
                demand(here == PLAIN || here == LABEL && depth == 0);
                return;
            }
            demand(here != PLAIN);
            depth = 0;
            if (here == TAKER) {
                give(REF);
            }
        }

        private void follow(Code code, int op, int a) {
            switch (op) {
                case PUSH -> give(INT);
                case NULL, NEW, GLOBAL -> give(REF);
                case POP -> take(topKind());
                case DUP -> give(topKind());
                case ADD, SUB, MUL, DIV, LESS -> {
                    take(INT);
                    take(INT);
                    give(INT);
                }
                case LOAD -> give(code.localKind(a));
                case STORE -> take(code.localKind(a));
                case JUMP -> leaveFor(a);
                case ZERO -> {
                    take(INT);
                    leaveFor(a);
                }
                case NONE -> {
                    take(REF);
                    leaveFor(a);
                }
                case THROW, ENTER, LEAVE, SET_GLOBAL -> take(REF);
                case IS, GET, PUT, REF_GET, REF_PUT -> followUse(op);
                case CALL -> followCall(codes.find(a));
                case RETURN -> followReturn(code);
                default -> demand(false);
            }
        }

        /** The value that is put lies above the object. */
        private void followUse(int op) {
            if (op == PUT) {
                take(INT);
            } else if (op == REF_PUT) {
                take(REF);
            }
            take(REF);
            if (op == IS || op == GET) {
                give(INT);
            } else if (op == REF_GET) {
                give(REF);
            }
        }

        private void followCall(Code called) {
            if (called == null) {
                demand(false);
                return;
            }
            for (int i = called.parameters - 1; i >= 0; i--) {
                take(called.localKind(i));
            }
            if (called.result != NO_KIND) {
                give(called.result);
            }
        }

        private void followReturn(Code code) {
            if (code.result != NO_KIND) {
                take(code.result);
            }
            demand(depth == 0);
        }

        private void leaveFor(int place) {
            demand(depth == 0 && markAt(place) != TAKER);
        }

        /** The kind on top, or NO_KIND, which can neither be given nor taken, if there is none. */
        private int topKind() {
            return depth >= 1 && depth <= MOST_VALUES ? kinds[depth - 1] : NO_KIND;
        }

        private void give(int kind) {
            if (kind == NO_KIND || depth < 0 || depth >= MOST_VALUES) {
                demand(false);
                return;
            }
            kinds[depth] = kind;
            depth++;
        }

        private void take(int kind) {
            if (kind == NO_KIND || topKind() != kind) {
                demand(false);
                return;
            }
            depth--;
        }

        private void demand(boolean fulfilled) {
            good = good && fulfilled;
        }
    }

    /** An object of the machine. */
    private static final class Thing {
        private static final int FIRST_TOLD_FIELD = 10;

        private final int[] fields = new int[FIELDS];
        private int kind;
        private int holder;
        private int entries;

        void begin(int newKind) {
            kind = newKind;
            setFree();
            for (int i = 0; i < FIELDS; i++) {
                fields[i] = 0;
            }
        }

        int kind() {
            return kind;
        }

        int field(int i) {
            return i >= 0 && i < FIELDS ? fields[i] : 0;
        }

        void setField(int i, int value) {
            if (i >= 0 && i < FIELDS) {
                fields[i] = value;
            }
        }

        boolean isHeldBy(int strand) {
            return holder == strand;
        }

        boolean isHeldByAnotherThan(int strand) {
            return holder != -1 && holder != strand;
        }

        void enter(int strand) {
            holder = strand;
            entries++;
        }

        void leave() {
            entries--;
            if (entries <= 0) {
                setFree();
            }
        }

        void setFree() {
            holder = -1;
            entries = 0;
        }

        int tell(int what) {
            if (what >= FIRST_TOLD_FIELD && what < FIRST_TOLD_FIELD + FIELDS) {
                return field(what - FIRST_TOLD_FIELD);
            }
            return switch (what) {
                case 0 -> kind;
                case 1 -> holder;
                case 2 -> entries;
                default -> MISSING;
            };
        }
    }

    /** The objects, numbered from 1, and the globals. Things made once are used again after a reset. */
    private static final class Heap {
        private final Thing[] things = new Thing[MOST_OBJECTS];
        private final int[] globals = new int[GLOBALS];
        private int count;
        private int madeForLife;

        boolean isFull() {
            return count >= MOST_OBJECTS || madeForLife >= MOST_OBJECTS_FOR_LIFE;
        }

        /** A new object's number, or 0 if there is no room. */
        int make(int kind) {
            if (isFull()) {
                return 0;
            }
            Thing thing = things[count];
            if (thing == null) {
                thing = new Thing();
                things[count] = thing;
            }
            thing.begin(kind);
            count++;
            madeForLife++;
            return count;
        }

        Thing find(int o) {
            return o >= 1 && o <= count ? things[o - 1] : null;
        }

        int globalAt(int i) {
            return i >= 0 && i < GLOBALS ? globals[i] : 0;
        }

        void setGlobal(int i, int o) {
            if (i >= 0 && i < GLOBALS) {
                globals[i] = o;
            }
        }

        void freeAllHeldBy(int strand) {
            for (int o = 1; o <= count; o++) {
                Thing thing = find(o);
                if (thing != null && thing.isHeldBy(strand)) {
                    thing.setFree();
                }
            }
        }

        /** The room that is used up for life stays used up. */
        void clear() {
            count = 0;
            for (int i = 0; i < GLOBALS; i++) {
                globals[i] = 0;
            }
        }
    }

    /** One call of a code that has not returned yet. */
    private static final class Frame {
        private final int[] values = new int[MOST_VALUES];
        private final int[] locals = new int[MOST_LOCALS];
        private Code code;
        private int depth;
        private int at;

        void begin(Code begun) {
            code = begun;
            depth = 0;
            at = 0;
            for (int i = 0; i < MOST_LOCALS; i++) {
                locals[i] = 0;
            }
        }

        Code ownCode() {
            return code;
        }

        int at() {
            return at;
        }

        void goOn() {
            at++;
        }

        void goTo(int place) {
            at = place;
        }

        int depth() {
            return depth;
        }

        void push(int value) {
            if (depth >= 0 && depth < MOST_VALUES) {
                values[depth] = value;
                depth++;
            }
        }

        int pop() {
            int value = peek(0);
            depth = Math.max(depth - 1, 0);
            return value;
        }

        int peek(int k) {
            return k >= 0 && k < depth ? values[depth - 1 - k] : 0;
        }

        void holdOnly(int value) {
            depth = 0;
            push(value);
        }

        int localAt(int i) {
            return code != null && i >= 0 && i < code.localCount() ? locals[i] : 0;
        }

        void setLocal(int i, int value) {
            if (i >= 0 && i < MOST_LOCALS) {
                locals[i] = value;
            }
        }
    }

    /** One thread of the machine. */
    private static final class Strand {
        private final int number;
        private final Frame[] frames = new Frame[MOST_FRAMES];
        private int frameCount;
        private int steps;
        private int state;
        private int outcome;
        private boolean isStopped;

        Strand(int number) {
            this.number = number;
            for (int i = 0; i < MOST_FRAMES; i++) {
                frames[i] = new Frame();
            }
        }

        void begin(Code code) {
            frameCount = 0;
            steps = 0;
            state = MAY_GO_ON;
            outcome = 0;
            isStopped = false;
            beginFrame(code);
        }

        int number() {
            return number;
        }

        int frameCount() {
            return frameCount;
        }

        boolean hasAllFrames() {
            return frameCount >= MOST_FRAMES;
        }

        /** The frame that begins with a code, or null if there are as many as there may be. */
        Frame beginFrame(Code code) {
            if (frameCount < 0 || frameCount >= MOST_FRAMES) {
                return null;
            }
            Frame frame = frames[frameCount];
            frame.begin(code);
            frameCount++;
            return frame;
        }

        void endFrame() {
            frameCount = Math.max(frameCount - 1, 0);
        }

        Frame top() {
            return frameCount >= 1 && frameCount <= MOST_FRAMES ? frames[frameCount - 1] : null;
        }

        boolean hasEnded() {
            return state == ENDED || state == ENDED_BY_FAILURE;
        }

        int state() {
            return state;
        }

        void end(int newState, int newOutcome) {
            state = newState;
            outcome = newOutcome;
        }

        void countStep() {
            steps++;
            isStopped = false;
        }

        /** Its enter was to be done, and was not, as another thread held the monitor. */
        void stop() {
            isStopped = true;
        }

        boolean isStopped() {
            return isStopped;
        }

        int tell(int what) {
            Frame top = top();
            return switch (what) {
                case 0 -> steps;
                case 1 -> frameCount;
                case 2 -> outcome;
                case 3 -> top == null || top.ownCode() == null ? -1 : top.ownCode().number;
                case 4 -> top == null ? -1 : top.at();
                case 5 -> top == null ? 0 : top.depth();
                default -> MISSING;
            };
        }
    }

    /** Runs the threads. It relies on the judge: only good codes get here. */
    private static final class Machine {
        private final Codes codes;
        private final Judge judge;
        private final Heap heap;
        private final Strand[] strands = new Strand[MOST_THREADS];
        private int strandCount;

        Machine(Codes codes, Judge judge, Heap heap) {
            this.codes = codes;
            this.judge = judge;
            this.heap = heap;
        }

        boolean hasStrands() {
            return strandCount > 0;
        }

        Strand find(int t) {
            return t >= 0 && t < strandCount ? strands[t] : null;
        }

        void clear() {
            strandCount = 0;
        }

        int begin(int c) {
            Code code = codes.find(c);
            if (code == null) {
                return MISSING;
            }
            if (code.parameters > 0 || !judge.isGoodThroughout(code)) {
                return WRONG;
            }
            if (strandCount >= MOST_THREADS) {
                return FULL;
            }
            if (strands[strandCount] == null) {
                strands[strandCount] = new Strand(strandCount);
            }
            strands[strandCount].begin(code);
            codes.close();
            strandCount++;
            return strandCount - 1;
        }

        /** Want of room is told only of a thread that may do a step: one that waits is kept by the monitor. */
        int advance(Strand strand, int n) {
            for (int i = 0; i < n && !strand.hasEnded() && awaitedBy(strand) == 0; i++) {
                if (heap.isFull()) {
                    return FULL;
                }
                if (objectHeldAgainst(strand) != 0) {
                    strand.stop();
                } else {
                    step(strand);
                }
            }
            return awaitedBy(strand) != 0 ? WAITS : strand.state();
        }

        /**
         * The object whose monitor a thread waits for, or 0. That it was stopped does not say so alone, as what
         * other threads do, or how they end, lets it on.
         */
        int awaitedBy(Strand strand) {
            return strand.isStopped() ? objectHeldAgainst(strand) : 0;
        }

        /** The object whose monitor a thread is to enter, tried or not, while another one holds it, or 0. */
        private int objectHeldAgainst(Strand strand) {
            Frame frame = strand.top();
            Code code = frame == null ? null : frame.ownCode();
            if (code == null || code.op(frame.at()) != ENTER) {
                return 0;
            }
            Thing thing = heap.find(frame.peek(0));
            return thing != null && thing.isHeldByAnotherThan(strand.number()) ? frame.peek(0) : 0;
        }

        int countStuck() {
            int count = 0;
            for (int t = 0; t < strandCount; t++) {
                Strand strand = find(t);
                if (strand != null && !strand.hasEnded()) {
                    if (awaitedBy(strand) == 0) {
                        return 0;
                    }
                    count++;
                }
            }
            return count;
        }

        private void step(Strand strand) {
            Frame frame = strand.top();
            Code code = frame == null ? null : frame.ownCode();
            if (code == null) {
                return;
            }
            strand.countStep();
            int op = code.op(frame.at());
            int failure = failureOf(strand, frame, op);
            if (failure == NO_FAILURE) {
                perform(strand, frame, op, code.operand(frame.at()));
            } else {
                raise(strand, heap.make(failure));
            }
        }

        /** The kind of the failure of an instruction, found before it takes anything. */
        private int failureOf(Strand strand, Frame frame, int op) {
            return switch (op) {
                case DIV -> frame.peek(0) == 0 ? DIVISION_FAILURE : NO_FAILURE;
                case GET, REF_GET, THROW, ENTER -> nullFailureOf(frame.peek(0));
                case PUT, REF_PUT -> nullFailureOf(frame.peek(1));
                case LEAVE -> failureOfLeave(strand, frame.peek(0));
                case CALL -> strand.hasAllFrames() ? DEPTH_FAILURE : NO_FAILURE;
                default -> NO_FAILURE;
            };
        }

        private int nullFailureOf(int o) {
            return heap.find(o) == null ? NULL_FAILURE : NO_FAILURE;
        }

        private int failureOfLeave(Strand strand, int o) {
            Thing thing = heap.find(o);
            if (thing == null) {
                return NULL_FAILURE;
            }
            return thing.isHeldBy(strand.number()) ? NO_FAILURE : MONITOR_FAILURE;
        }

        private void perform(Strand strand, Frame frame, int op, int a) {
            switch (op) {
                case JUMP -> frame.goTo(a);
                case ZERO, NONE -> frame.goTo(frame.pop() == 0 ? a : frame.at() + 1);
                case CALL -> callCode(strand, frame, codes.find(a));
                case THROW -> raise(strand, frame.pop());
                case RETURN -> giveBack(strand, frame);
                case ADD, SUB, MUL, DIV, LESS -> {
                    int upper = frame.pop();
                    frame.push(compute(op, frame.pop(), upper));
                    frame.goOn();
                }
                case IS, GET, PUT, ENTER, LEAVE, REF_GET, REF_PUT -> {
                    useThing(strand, frame, op, a);
                    frame.goOn();
                }
                default -> {
                    moveValue(frame, op, a);
                    frame.goOn();
                }
            }
        }

        private void moveValue(Frame frame, int op, int a) {
            switch (op) {
                case PUSH -> frame.push(a);
                case NULL -> frame.push(0);
                case POP -> frame.pop();
                case DUP -> frame.push(frame.peek(0));
                case LOAD -> frame.push(frame.localAt(a));
                case STORE -> frame.setLocal(a, frame.pop());
                case NEW -> frame.push(heap.make(a));
                case GLOBAL -> frame.push(heap.globalAt(a));
                case SET_GLOBAL -> heap.setGlobal(a, frame.pop());
                default -> { }
            }
        }

        private static int compute(int op, int lower, int upper) {
            return switch (op) {
                case ADD -> lower + upper;
                case SUB -> lower - upper;
                case MUL -> lower * upper;
                case DIV -> upper == 0 ? 0 : lower / upper;
                case LESS -> lower < upper ? 1 : 0;
                default -> 0;
            };
        }

        private void useThing(Strand strand, Frame frame, int op, int a) {
            boolean puts = op == PUT || op == REF_PUT;
            int value = puts ? frame.pop() : 0;
            Thing thing = heap.find(frame.pop());
            if (op == IS) {
                frame.push(thing != null && thing.kind() == a ? 1 : 0);
            } else if (thing != null) {
                switch (op) {
                    case GET, REF_GET -> frame.push(thing.field(a));
                    case PUT, REF_PUT -> thing.setField(a, value);
                    case ENTER -> thing.enter(strand.number());
                    case LEAVE -> thing.leave();
                    default -> { }
                }
            }
        }

        /** The caller stays at its call until that returns: what the call throws is thrown there. */
        private void callCode(Strand strand, Frame caller, Code called) {
            Frame begun = called == null ? null : strand.beginFrame(called);
            if (begun == null) {
                return;
            }
            for (int i = called.parameters - 1; i >= 0; i--) {
                begun.setLocal(i, caller.pop());
            }
        }

        private void giveBack(Strand strand, Frame frame) {
            boolean gives = frame.ownCode() != null && frame.ownCode().result != NO_KIND;
            int result = gives ? frame.pop() : 0;
            strand.endFrame();
            Frame caller = strand.top();
            if (caller == null) {
                end(strand, ENDED, result);
                return;
            }
            if (gives) {
                caller.push(result);
            }
            caller.goOn();
        }

        private void raise(Strand strand, int o) {
            Thing thing = heap.find(o);
            int kind = thing == null ? NULL_FAILURE : thing.kind();
            for (int left = strand.frameCount(); left > 0; left--) {
                Frame frame = strand.top();
                Code code = frame == null ? null : frame.ownCode();
                int taker = code == null ? -1 : code.takerOf(frame.at(), kind);
                if (taker >= 0) {
                    frame.holdOnly(o);
                    frame.goTo(taker);
                    return;
                }
                strand.endFrame();
            }
            end(strand, ENDED_BY_FAILURE, o);
        }

        private void end(Strand strand, int state, int outcome) {
            strand.end(state, outcome);
            heap.freeAllHeldBy(strand.number());
        }
    }
}
