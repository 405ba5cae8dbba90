/**
 * A small object machine whose room is got back while it runs: each making of an object does a
 * little of that work, so that no step does much.
 */
public final class ReadBarrierMachine {
    private static final int NONE = -1;
    private static final int REFUSED = -1;

    private static final int KINDS = 4;
    private static final int SELECTORS = 4;
    private static final int MOST_PARTS = 3;
    private static final int METHODS = 6;
    private static final int PLACES = 12;
    private static final int REGISTERS = 3;
    private static final int MOST_STEPS = 200;
    private static final int KEPT_SHOWN = 8;

    private static final int RUNNING = 0;
    private static final int RETURNED = 1;
    private static final int UNCAUGHT = 2;
    private static final int OUT_OF_ROOM = 3;
    private static final int NOT_STARTED = 4;

    private static final int NO_OBJECT = 1;
    private static final int NO_PART = 2;
    private static final int NO_METHOD = 3;

    private static final int CONST = 0;
    private static final int ADD = 1;
    private static final int NEW = 2;
    private static final int COPY = 3;
    private static final int CLEAR = 4;
    private static final int GET = 5;
    private static final int PUT = 6;
    private static final int LOAD = 7;
    private static final int STORE = 8;
    private static final int JUMP = 9;
    private static final int ZERO = 10;
    private static final int VOID = 11;
    private static final int CALL = 12;
    private static final int RETURN = 13;
    private static final int THROW = 14;
    private static final int SHOW = 15;
    private static final int INSTRUCTIONS = 16;

    // By instruction: whether it names x and y, and how many values its z may have.
    private static final int ANY = -1;
    private static final int[] NAMES_X = {1, 1, 1, 1, 1, 1, 1, 1, 1, 0, 1, 1, 1, 1, 1, 1};
    private static final int[] NAMES_Y = {0, 1, 0, 1, 0, 1, 1, 1, 1, 0, 0, 0, 1, 1, 0, 0};
    private static final int[] Z_VALUES = {
        ANY, REGISTERS, KINDS, ANY, ANY, MOST_PARTS, MOST_PARTS, MOST_PARTS,
        MOST_PARTS, PLACES, PLACES, PLACES, SELECTORS, ANY, ANY, ANY
    };

    // Where a frame has what is no register: R0, R1, R2, LINK and I0, I1, I2, PLACE.
    private static final int LINK = 3;
    private static final int PLACE = 3;

    private final Kinds kinds;
    private final Methods methods;
    private final Room room;
    private final int[] latestShown;
    private int shownCount;
    private int phase;
    private int outcome;
    private boolean pending;
    private int exception;
    private int greatestWork;

    public ReadBarrierMachine(int cells, int pace) {
        kinds = new Kinds();
        methods = new Methods();
        room = new Room(Math.max(24, Math.min(120, cells)), Math.max(1, Math.min(8, pace)));
        latestShown = new int[KEPT_SHOWN];
        phase = NOT_STARTED;
    }

    public int kind(int parent, int refs, int ints) {
        return kinds.load(parent, refs, ints);
    }

    public boolean bind(int kind, int selector, int m) {
        if (!kinds.has(kind) || selector < 0 || selector >= SELECTORS || !methods.isFinished(m)) {
            return false;
        }
        kinds.enter(kind, selector, m);
        return true;
    }

    public int method(int handler) {
        return methods.open(handler);
    }

    public int code(int op, int x, int y, int z) {
        if (!methods.isOpen) {
            return 1;
        }
        if (methods.isOpenOneFull()) {
            return 2;
        }
        if (op < 0 || op >= INSTRUCTIONS) {
            return 3;
        }
        if (!isAsSaid(op, x, y, z)) {
            return 4;
        }
        methods.add(op, x, y, z);
        return 0;
    }

    public boolean seal() {
        return methods.finish();
    }

    public boolean drop() {
        return methods.giveUp();
    }

    public boolean start(int m, int value) {
        if (!methods.isFinished(m)) {
            return false;
        }
        room.restart(m);
        room.setInt(room.current, 0, value);
        phase = RUNNING;
        outcome = 0;
        pending = false;
        shownCount = 0;
        greatestWork = 0;
        return true;
    }

    public int run(int n) {
        if (n < 0 || n > MOST_STEPS) {
            return REFUSED;
        }
        greatestWork = 0;
        int done = 0;
        while (done < n && phase == RUNNING) {
            room.stepWork = 0;
            if (pending) {
                passException();
            } else {
                perform();
            }
            if (room.full) {
                phase = OUT_OF_ROOM;
            }
            greatestWork = Math.max(greatestWork, room.stepWork);
            done++;
        }
        return done;
    }

    public int state() {
        return phase;
    }

    public int result() {
        return outcome;
    }

    public int shown(int k) {
        if (k == -1) {
            return shownCount;
        }
        if (k < 0 || k >= KEPT_SHOWN || k >= shownCount) {
            return 0;
        }
        return latestShown[slotOfShown(shownCount - 1 - k)];
    }

    public int work() {
        return greatestWork;
    }

    public int used() {
        return phase == NOT_STARTED ? 0 : room.usedCells();
    }

    public int grey() {
        return room.cellsToScan();
    }

    public int flips() {
        return room.flipCount;
    }

    public int depth() {
        return phase == NOT_STARTED ? 0 : room.countFrames();
    }

    public int live() {
        return phase == NOT_STARTED ? 0 : room.countReachableCells();
    }

    public int kindAt(int x, int f) {
        if (phase == NOT_STARTED || !isRegister(x)) {
            return NONE;
        }
        int object = room.peekRef(room.current, x);
        if (object != NONE && f != -1) {
            boolean isThereRef = f >= 0 && f < room.refsOf(object);
            object = isThereRef ? room.peekRef(object, f) : NONE;
        }
        return object == NONE ? NONE : room.idOf(object);
    }

    public int number(int x) {
        if (phase == NOT_STARTED || x < 0 || x > PLACE) {
            return 0;
        }
        return room.intOf(room.current, x);
    }

    private static boolean isRegister(int x) {
        return x >= 0 && x < REGISTERS;
    }

    /** A mask, not a remainder: it stays within the row even if the count should wrap. */
    private static int slotOfShown(int count) {
        return count & (KEPT_SHOWN - 1);
    }

    private boolean isAsSaid(int op, int x, int y, int z) {
        if (NAMES_X[op] == 1 && !isRegister(x)) {
            return false;
        }
        if (NAMES_Y[op] == 1 && !isRegister(y)) {
            return false;
        }
        if (op == NEW) {
            return kinds.has(z);
        }
        return Z_VALUES[op] == ANY || (z >= 0 && z < Z_VALUES[op]);
    }

    /** One frame a step, so that a long chain of calls is left in many small steps. */
    private void passException() {
        int handler = methods.handlers[methodOfCurrent()];
        if (handler != NONE) {
            setPlace(handler);
            setNumber(2, exception);
            pending = false;
            return;
        }
        int caller = room.readRef(room.current, LINK);
        if (room.full) {
            return;
        }
        if (caller == NONE) {
            phase = UNCAUGHT;
            outcome = exception;
        } else {
            room.current = caller;
        }
    }

    /** The place has an instruction: seal refuses methods that could run or jump past their end. */
    private void perform() {
        int place = room.intOf(room.current, PLACE);
        int at = methods.find(methodOfCurrent(), place);
        setPlace(place + 1);
        int x = methods.xs[at];
        int y = methods.ys[at];
        int z = methods.zs[at];
        switch (methods.ops[at]) {
            case CONST -> setNumber(x, z);
            case ADD -> setNumber(x, numberIn(y) + numberIn(z));
            case NEW -> doNew(x, z);
            case COPY -> doCopy(x, y);
            case CLEAR -> room.setRef(room.current, x, NONE);
            case GET -> doGet(x, y, z);
            case PUT -> doPut(x, y, z);
            case LOAD -> doLoad(x, y, z);
            case STORE -> doStore(x, y, z);
            case JUMP -> setPlace(z);
            case ZERO -> doZero(x, z);
            case VOID -> doVoid(x, z);
            case CALL -> doCall(x, y, z);
            case RETURN -> doReturn(x, y);
            case THROW -> raise(numberIn(x));
            case SHOW -> doShow(x);
            default -> { }
        }
    }

    private void doNew(int x, int kind) {
        int object = room.make(kinds.headOf(kind));
        if (!room.full) {
            room.setRef(room.current, x, object);
        }
    }

    private void doCopy(int x, int y) {
        int object = room.readRef(room.current, y);
        if (!room.full) {
            room.setRef(room.current, x, object);
        }
    }

    private void doGet(int x, int y, int z) {
        int object = room.readRef(room.current, y);
        if (!hasRef(object, z)) {
            return;
        }
        int held = room.readRef(object, z);
        if (!room.full) {
            room.setRef(room.current, x, held);
        }
    }

    private void doPut(int x, int y, int z) {
        int object = room.readRef(room.current, x);
        if (!hasRef(object, z)) {
            return;
        }
        int held = room.readRef(room.current, y);
        if (!room.full) {
            room.setRef(object, z, held);
        }
    }

    private void doLoad(int x, int y, int z) {
        int object = room.readRef(room.current, y);
        if (hasInt(object, z)) {
            setNumber(x, room.intOf(object, z));
        }
    }

    private void doStore(int x, int y, int z) {
        int object = room.readRef(room.current, x);
        if (hasInt(object, z)) {
            room.setInt(object, z, numberIn(y));
        }
    }

    private void doZero(int x, int place) {
        if (numberIn(x) == 0) {
            setPlace(place);
        }
    }

    private void doVoid(int x, int place) {
        if (room.readRef(room.current, x) == NONE) {
            setPlace(place);
        }
    }

    private void doCall(int x, int y, int selector) {
        int target = room.readRef(room.current, x);
        if (!isThere(target)) {
            return;
        }
        int m = kinds.entry(room.idOf(target), selector);
        if (m == NONE) {
            raise(NO_METHOD);
            return;
        }
        int frame = room.make(Room.headOfFrame(m));
        if (room.full) {
            return;
        }
        // The making may have flipped: what Rx and Ry held may be old again.
        int receiver = room.readRef(room.current, x);
        if (room.full) {
            return;
        }
        int argument = room.readRef(room.current, y);
        if (room.full) {
            return;
        }
        enterFrame(frame, receiver, argument);
    }

    private void enterFrame(int frame, int receiver, int argument) {
        room.setRef(frame, 0, receiver);
        room.setRef(frame, 1, argument);
        room.setRef(frame, LINK, room.current);
        room.setInt(frame, 0, numberIn(0));
        room.current = frame;
    }

    private void doReturn(int x, int y) {
        int answer = room.readRef(room.current, x);
        if (room.full) {
            return;
        }
        int caller = room.readRef(room.current, LINK);
        if (room.full) {
            return;
        }
        int value = numberIn(y);
        if (caller == NONE) {
            phase = RETURNED;
            outcome = value;
            return;
        }
        room.current = caller;
        room.setRef(caller, 2, answer);
        setNumber(2, value);
    }

    private void doShow(int x) {
        latestShown[slotOfShown(shownCount)] = numberIn(x);
        shownCount++;
    }

    private void raise(int number) {
        pending = true;
        exception = number;
    }

    /** False where the machine may not go on with the object: it is NONE, or room ran out. */
    private boolean isThere(int object) {
        if (room.full) {
            return false;
        }
        if (object == NONE) {
            raise(NO_OBJECT);
            return false;
        }
        return true;
    }

    private boolean hasRef(int object, int z) {
        return isThere(object) && hasPart(z, room.refsOf(object));
    }

    private boolean hasInt(int object, int z) {
        return isThere(object) && hasPart(z, room.intsOf(object));
    }

    private boolean hasPart(int z, int parts) {
        if (z >= parts) {
            raise(NO_PART);
            return false;
        }
        return true;
    }

    private int methodOfCurrent() {
        return Room.methodOfFrame(room.idOf(room.current));
    }

    private int numberIn(int x) {
        return room.intOf(room.current, x);
    }

    private void setNumber(int x, int value) {
        room.setInt(room.current, x, value);
    }

    private void setPlace(int place) {
        room.setInt(room.current, PLACE, place);
    }

    /** The loaded kinds and their tables. */
    private static final class Kinds {
        private final int[] refCounts = new int[KINDS];
        private final int[] intCounts = new int[KINDS];
        private final int[] table = new int[KINDS * SELECTORS];
        private int loaded;

        boolean has(int kind) {
            return kind >= 0 && kind < loaded;
        }

        int load(int parent, int refs, int ints) {
            if (loaded == KINDS || (parent != NONE && !has(parent))) {
                return REFUSED;
            }
            int leastRefs = parent == NONE ? 0 : refCounts[parent];
            int leastInts = parent == NONE ? 0 : intCounts[parent];
            if (refs < leastRefs || refs > MOST_PARTS || ints < leastInts || ints > MOST_PARTS) {
                return REFUSED;
            }
            int kind = loaded;
            for (int s = 0; s < SELECTORS; s++) {
                enter(kind, s, entry(parent, s));
            }
            refCounts[kind] = refs;
            intCounts[kind] = ints;
            loaded++;
            return kind;
        }

        void enter(int kind, int selector, int m) {
            table[kind * SELECTORS + selector] = m;
        }

        int entry(int kind, int selector) {
            return has(kind) ? table[kind * SELECTORS + selector] : NONE;
        }

        int headOf(int kind) {
            return Room.headOf(kind, refCounts[kind], intCounts[kind]);
        }
    }

    /** The finished methods and, behind them, the open one. */
    private static final class Methods {
        private final int[] handlers = new int[METHODS];
        private final int[] lengths = new int[METHODS];
        private final int[] ops = new int[METHODS * PLACES];
        private final int[] xs = new int[METHODS * PLACES];
        private final int[] ys = new int[METHODS * PLACES];
        private final int[] zs = new int[METHODS * PLACES];
        private int finished;
        private boolean isOpen;

        boolean isFinished(int m) {
            return m >= 0 && m < finished;
        }

        boolean isOpenOneFull() {
            return lengths[finished] == PLACES;
        }

        int find(int m, int place) {
            return m * PLACES + place;
        }

        int open(int handler) {
            if (isOpen || finished == METHODS || handler < NONE || handler >= PLACES) {
                return REFUSED;
            }
            isOpen = true;
            handlers[finished] = handler;
            lengths[finished] = 0;
            return finished;
        }

        void add(int op, int x, int y, int z) {
            int at = find(finished, lengths[finished]);
            ops[at] = op;
            xs[at] = x;
            ys[at] = y;
            zs[at] = z;
            lengths[finished]++;
        }

        boolean finish() {
            if (!isOpen || !endsWell() || !staysInside()) {
                return false;
            }
            isOpen = false;
            finished++;
            return true;
        }

        boolean giveUp() {
            boolean wasOpen = isOpen;
            isOpen = false;
            return wasOpen;
        }

        private boolean endsWell() {
            int length = lengths[finished];
            if (length == 0) {
                return false;
            }
            int last = ops[find(finished, length - 1)];
            return last == JUMP || last == RETURN || last == THROW;
        }

        private boolean staysInside() {
            int length = lengths[finished];
            for (int place = 0; place < length; place++) {
                int at = find(finished, place);
                boolean jumps = ops[at] == JUMP || ops[at] == ZERO || ops[at] == VOID;
                if (jumps && zs[at] >= length) {
                    return false;
                }
            }
            return handlers[finished] < length;
        }
    }

    /**
     * The objects, in two spaces of H cells each. The space in use holds the row of moved objects
     * from its lower end on and the new objects from its upper end down; the other one holds the
     * old objects. A ref is the place of its object's head; where an object was moved away, the
     * head that stays behind tells where to, and is below 0.
     */
    private static final class Room {
        private static final int FIRST_FRAME_ID = KINDS;
        private static final int FRAME_PARTS = 4;
        private static final int PART_BITS = 3;
        private static final int PART_MASK = 7;

        private final int limit;
        private final int pace;
        private final int[] cells;
        private final int[] found;
        private final int[] isFound;
        private int current;
        private int base;
        private int rowEnd;
        private int scanned;
        private int nextHead;
        private int refsEnd;
        private int newStart;
        private int flipCount;
        private int stepWork;
        private boolean full;

        Room(int limit, int pace) {
            this.limit = limit;
            this.pace = pace;
            cells = new int[2 * limit];
            found = new int[2 * limit];
            isFound = new int[2 * limit];
            current = NONE;
        }

        static int headOf(int id, int refs, int ints) {
            return (((id << PART_BITS) | refs) << PART_BITS) | ints;
        }

        static int headOfFrame(int m) {
            return headOf(FIRST_FRAME_ID + m, FRAME_PARTS, FRAME_PARTS);
        }

        static int methodOfFrame(int id) {
            return id - FIRST_FRAME_ID;
        }

        private static int refsIn(int head) {
            return (head >> PART_BITS) & PART_MASK;
        }

        private static int sizeIn(int head) {
            return 1 + ((head >> PART_BITS) & PART_MASK) + (head & PART_MASK);
        }

        void restart(int m) {
            useSpace(0);
            flipCount = 0;
            full = false;
            current = make(headOfFrame(m));
        }

        int usedCells() {
            return limit - freeCells();
        }

        int cellsToScan() {
            return rowEnd - scanned;
        }

        int idOf(int object) {
            return cells[object] >> (2 * PART_BITS);
        }

        int refsOf(int object) {
            return refsIn(cells[object]);
        }

        int intsOf(int object) {
            return cells[object] & PART_MASK;
        }

        int intOf(int object, int i) {
            return cells[object + 1 + refsOf(object) + i];
        }

        void setInt(int object, int i, int value) {
            cells[object + 1 + refsOf(object) + i] = value;
        }

        void setRef(int object, int i, int value) {
            cells[object + 1 + i] = value;
        }

        /** The barrier: what is read is no old object, unless the room is full from then on. */
        int readRef(int object, int i) {
            int at = object + 1 + i;
            cells[at] = bring(cells[at]);
            return cells[at];
        }

        /** For questions, which move nothing. */
        int peekRef(int object, int i) {
            int held = cells[object + 1 + i];
            return held != NONE && cells[held] < 0 ? movedTo(held) : held;
        }

        /** The new object, or NONE with the room full from then on. */
        int make(int head) {
            int size = sizeIn(head);
            scanCells(pace * size);
            // With cells of the row still to scan, old objects may be needed yet: no flip.
            if (!full && size > freeCells() && scanned == rowEnd) {
                flip();
            }
            full = full || size > freeCells();
            if (full) {
                return NONE;
            }
            newStart -= size;
            int refs = refsIn(head);
            cells[newStart] = head;
            for (int i = 1; i < size; i++) {
                cells[newStart + i] = i <= refs ? NONE : 0;
            }
            return newStart;
        }

        int countFrames() {
            int count = 0;
            int frame = current;
            while (frame != NONE && count < cells.length) {
                count++;
                frame = peekRef(frame, LINK);
            }
            return count;
        }

        int countReachableCells() {
            int total = 0;
            int count = noteFound(current, 0);
            for (int i = 0; i < count && i < found.length; i++) {
                int object = found[i];
                int refs = refsOf(object);
                total += sizeIn(cells[object]);
                for (int r = 0; r < refs; r++) {
                    count = noteFound(peekRef(object, r), count);
                }
            }
            for (int i = 0; i < count; i++) {
                isFound[found[i]] = 0;
            }
            return total;
        }

        private int noteFound(int object, int count) {
            if (object == NONE || isFound[object] == 1) {
                return count;
            }
            isFound[object] = 1;
            found[count] = object;
            return count + 1;
        }

        private int freeCells() {
            return newStart - rowEnd;
        }

        private void useSpace(int from) {
            base = from;
            rowEnd = from;
            scanned = from;
            nextHead = from;
            refsEnd = from;
            newStart = from + limit;
        }

        private void scanCells(int most) {
            for (int i = 0; i < most && scanned < rowEnd && !full; i++) {
                int at = scanned;
                scanned++;
                stepWork++;
                if (at == nextHead) {
                    refsEnd = at + 1 + refsIn(cells[at]);
                    nextHead = at + sizeIn(cells[at]);
                } else if (at < refsEnd) {
                    cells[at] = bring(cells[at]);
                }
            }
        }

        private void flip() {
            useSpace(base == 0 ? limit : 0);
            flipCount++;
            current = moveOld(current);
        }

        private int bring(int held) {
            boolean isHere = held >= base && held < base + limit;
            if (held == NONE || isHere) {
                return held;
            }
            return cells[held] < 0 ? movedTo(held) : moveOld(held);
        }

        private int movedTo(int object) {
            return -1 - cells[object];
        }

        private int moveOld(int object) {
            int size = sizeIn(cells[object]);
            if (size > freeCells()) {
                full = true;
                return object;
            }
            int to = rowEnd;
            System.arraycopy(cells, object, cells, to, size);
            cells[object] = -1 - to;
            rowEnd += size;
            stepWork += size;
            return to;
        }
    }
}
