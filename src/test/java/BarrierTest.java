/**
 * The part "WHAT IS READ" of the section "Terms", sentence by sentence: what an instruction reads
 * is moved if it is old, and nothing else is. Objects of the kinds 0, 1 and 2 of Lines.machine
 * have the sizes 1, 3 and 7.
 */
public final class BarrierTest {
    private static final Checks CHECKS = new Checks();

    // In a room of 24 cells: leaves R0 and R1 old, R0's ref 0 holding R1's object, R2 new, the
    // frame moved and not scanned; 12 cells are used.
    private static final int[][] OLD_REGISTERS = {
        Lines.make(0, 1), Lines.make(1, 1), Lines.put(0, 1, 0),
        Lines.make(2, 1), Lines.make(2, 1), Lines.make(2, 1), Lines.make(2, 1)
    };

    private BarrierTest() {
    }

    public static void main(String[] args) {
        copyReads();
        getReads();
        putReads();
        putReadsInOrder();
        loadReads();
        storeReads();
        voidReads();
        callReads();
        callReadsAfterTheFlip();
        callScansBeforeItReads();
        callReadsBeforeItScans();
        returnReads();
        returnAtTheEndReads();
        pendingExceptionReads();
        handlerReadsNothing();
        nothingElseIsRead();
        readBeforeStaysRead();
        readingMovesOldOnesAlone();
        scanFollowsTheRow();
        roomIsGotBack();
        sharedObjectsStayShared();
        callersStayThroughFlips();
        CHECKS.end();
    }

    private static void due(String call, int got, int want) {
        CHECKS.due(call, got, want);
    }

    private static void room(ReadBarrierMachine x, int used, int grey, int work) {
        due("used()", x.used(), used);
        due("grey()", x.grey(), grey);
        due("work()", x.work(), work);
    }

    /** A machine of 24 cells, stopped behind OLD_REGISTERS and before the line. */
    private static ReadBarrierMachine before(int... line) {
        return before(Lines.joined(OLD_REGISTERS, line, Lines.jump(0)));
    }

    private static ReadBarrierMachine before(int[][] lines) {
        ReadBarrierMachine x = Lines.started(24, 1, 66, lines);
        x.run(7);
        room(x, 12, 9, 9);
        due("flips()", x.flips(), 1);
        due("live()", x.live(), 18);
        return x;
    }

    /** The line moves so many cells, and nothing is scanned. */
    private static void moves(String name, int cells, int... line) {
        ReadBarrierMachine x = before(line);
        x.run(1);
        due(name + ": used()", x.used(), 12 + cells);
        due(name + ": grey()", x.grey(), 9 + cells);
        due(name + ": work()", x.work(), cells);
        due(name + ": flips()", x.flips(), 1);
    }

    private static void copyReads() {
        CHECKS.sentence("terms", "COPY Ry.");
        moves("an old one", 3, Lines.copy(2, 1));
        moves("an old one onto an old one", 3, Lines.copy(0, 1));
        moves("a new one", 0, Lines.copy(2, 2));
        moves("a new one onto an old one", 0, Lines.copy(0, 2));
    }

    private static void getReads() {
        CHECKS.sentence("terms", "GET Ry, then ref z of its object (if there is no exception).");
        moves("an old one of an old one", 6, Lines.get(2, 0, 0));
        moves("NONE of an old one", 3, Lines.get(2, 1, 0));
        moves("NONE of a new one, onto an old one", 0, Lines.get(0, 2, 0));
        moves("an exception", 3, Lines.get(2, 0, 1));
    }

    private static void putReads() {
        CHECKS.sentence("terms", "PUT Rx, then Ry (if there is no exception).");
        moves("an old one into an old one", 6, Lines.put(0, 1, 0));
        moves("an old one into a new one", 3, Lines.put(2, 1, 0));
        moves("a new one into an old one", 3, Lines.put(1, 2, 0));
        moves("an old one into itself", 3, Lines.put(1, 1, 0));
        moves("an exception", 3, Lines.put(0, 1, 1));
        moves("an exception, Rx is new", 0, Lines.put(2, 1, 1));
        movesWithNone("an exception, Rx is NONE", Lines.put(2, 1, 0));
    }

    /** The line stands where R2 was cleared: it moves nothing. */
    private static void movesWithNone(String name, int... line) {
        ReadBarrierMachine x = before(Lines.joined(OLD_REGISTERS, Lines.clear(2), line, Lines.jump(0)));
        x.run(2);
        due(name + ": used()", x.used(), 12);
        due(name + ": grey()", x.grey(), 9);
        due(name + ": work()", x.work(), 0);
    }

    private static void putReadsInOrder() {
        CHECKS.sentence("terms", "PUT Rx, then Ry (each goes into the room, both do not)");
        ReadBarrierMachine x = Lines.sized(24, 1, 5, 7, 4);
        x.start(Lines.method(x, -1, Lines.make(0, 0), Lines.make(1, 1), Lines.make(2, 2), Lines.put(0, 1, 0),
                Lines.jump(0)), 0);
        x.run(3);
        room(x, 13, 9, 9);
        due("run(9)", x.run(9), 1);
        room(x, 18, 14, 5);
        due("state()", x.state(), 3);
    }

    private static void loadReads() {
        CHECKS.sentence("terms", "LOAD Ry.");
        moves("an old one", 3, Lines.load(0, 1, 0));
        moves("a new one", 0, Lines.load(0, 2, 0));
        moves("an exception", 3, Lines.load(0, 1, 1));
        movesWithNone("NONE", Lines.load(0, 2, 0));
    }

    private static void storeReads() {
        CHECKS.sentence("terms", "STORE Rx.");
        moves("an old one", 3, Lines.store(1, 0, 0));
        moves("a new one", 0, Lines.store(2, 0, 0));
        moves("an exception", 3, Lines.store(0, 1, 1));
        movesWithNone("NONE", Lines.store(2, 0, 0));
    }

    private static void voidReads() {
        CHECKS.sentence("terms", "VOID Rx.");
        moves("an old one", 3, Lines.ifVoid(0, 0));
        moves("a new one", 0, Lines.ifVoid(2, 0));
        movesWithNone("NONE", Lines.ifVoid(2, 0));
    }

    private static void callReads() {
        CHECKS.sentence("terms", "CALL Rx; then, if there is no exception (there is one)");
        moves("no method, both are old", 3, Lines.call(0, 1, 0));
        moves("no method, Ry is old", 0, Lines.call(2, 1, 0));
        movesWithNone("NONE, Ry is old", Lines.call(2, 1, 0));
    }

    private static void nothingElseIsRead() {
        CHECKS.sentence("terms", "Nothing else is read.");
        moves("CONST", 0, Lines.constant(0, 1));
        moves("ADD", 0, Lines.add(0, 0, 1));
        moves("CLEAR", 0, Lines.clear(0));
        moves("JUMP", 0, Lines.jump(0));
        moves("ZERO", 0, Lines.ifZero(0, 0));
        moves("THROW", 0, Lines.raise(0));
        moves("SHOW", 0, Lines.show(0));
        ReadBarrierMachine x = before(Lines.make(0, 0));
        x.run(1);
        // NEW scans a cell, the frame's head, and puts the new object over an old one.
        room(x, 13, 8, 1);
        due("live()", x.live(), 16);
    }

    private static void readBeforeStaysRead() {
        CHECKS.sentence("terms", "the instruction has no effect of its own; .. and what was read before stays read");
        int[][] lines = {
            Lines.get(2, 0, 1), Lines.put(0, 1, 1), Lines.load(0, 0, 1), Lines.store(0, 1, 1), Lines.call(0, 1, 0)
        };
        for (int[] line : lines) {
            String name = "instruction " + line[0];
            ReadBarrierMachine x = before(Lines.joined(OLD_REGISTERS, line, Lines.jump(0)));
            x.run(1);
            due(name + ": work()", x.work(), 3);
            due(name + ": used()", x.used(), 15);
            due(name + ": number(0)", x.number(0), 66);
            due(name + ": kindAt(2, 0)", x.kindAt(2, 0), -1);
            due(name + ": live()", x.live(), 18);
            due(name + ": depth()", x.depth(), 1);
            due(name + ": state()", x.state(), 0);
            due(name + ": the exception goes on", x.run(9), 1);
            due(name + ": result()", x.result(), line[0] == 12 ? 3 : 2);
        }
    }

    private static void readingMovesOldOnesAlone() {
        CHECKS.sentence("terms", "READING a ref .. if it holds an old object, that is moved (once)");
        ReadBarrierMachine x = before(Lines.joined(OLD_REGISTERS, Lines.copy(2, 1), Lines.copy(0, 1),
                Lines.ifVoid(1, 0), Lines.put(1, 0, 0), Lines.jump(11)));
        x.run(1);
        room(x, 15, 12, 3);
        x.run(3);
        room(x, 15, 12, 0);
        due("kindAt(1, 0)", x.kindAt(1, 0), 1);
        due("live()", x.live(), 12);
        CHECKS.sentence("terms", "READING a ref .. if it holds an old object, that is moved (by another ref before)");
        x = before(Lines.joined(OLD_REGISTERS, Lines.get(2, 0, 0), Lines.ifVoid(1, 0), Lines.store(1, 0, 0),
                Lines.load(1, 2, 0), Lines.jump(11)));
        x.run(1);
        room(x, 18, 15, 6);
        x.run(1);
        room(x, 18, 15, 0);
        x.run(2);
        due("one object by both refs", x.number(1), 66);
    }

    private static void returnAtTheEndReads() {
        CHECKS.sentence("terms", "RETURN Rx, then LINK. (LINK is NONE)");
        ReadBarrierMachine x = before(Lines.giveBack(0, 0));
        x.run(1);
        room(x, 15, 12, 3);
        due("state()", x.state(), 1);
        due("result()", x.result(), 66);
        x = before(Lines.giveBack(2, 0));
        x.run(1);
        room(x, 12, 9, 0);
        due("state()", x.state(), 1);
    }

    private static void callReadsAfterTheFlip() {
        CHECKS.sentence("terms", "Rx and Ry, and it is these that R0 and R1 of the frame hold");
        int[][] lines = {
            Lines.make(0, 1), Lines.make(1, 1), Lines.store(1, 0, 0), Lines.call(0, 1, 1), Lines.giveBack(0, 2)
        };
        // With one object more before it, the call flips.
        int[][] more = Lines.joined(new int[][] {Lines.make(2, 0)}, lines);
        for (int flips = 0; flips <= 1; flips++) {
            ReadBarrierMachine x = Lines.machine(24, 1);
            x.bind(1, 1, Lines.method(x, -1, Lines.load(1, 1, 0), Lines.giveBack(1, 1)));
            x.start(Lines.method(x, -1, flips == 0 ? lines : more), 5);
            x.run(4 + flips);
            due("flips()", x.flips(), flips);
            room(x, 24, 15 * flips, 15 * flips);
            due("depth()", x.depth(), 2);
            due("live()", x.live(), 24 + flips);
            due("kindAt(0, -1)", x.kindAt(0, -1), 1);
            due("kindAt(1, -1)", x.kindAt(1, -1), 1);
            x.run(3);
            due("int 0 of what is in R1", x.result(), 5);
        }
    }

    private static void callScansBeforeItReads() {
        CHECKS.sentence("terms", "CALL Rx; then, if there is no exception and the frame was made, Rx and Ry "
                + "(found by the scan)");
        ReadBarrierMachine x = Lines.machine(33, 1);
        x.bind(1, 0, Lines.method(x, -1, Lines.giveBack(0, 0)));
        int m = Lines.method(x, -1, Lines.make(0, 1), Lines.make(1, 2), Lines.make(2, 2), Lines.make(2, 2),
                Lines.make(2, 0), Lines.call(0, 1, 0), Lines.giveBack(0, 0));
        x.start(m, 0);
        x.run(5);
        due("flips()", x.flips(), 1);
        room(x, 10, 9, 9);
        x.run(1);
        // R0 is read (3), then nine cells are scanned, which finds R1 (7), then the frame is made.
        room(x, 29, 10, 19);
        due("depth()", x.depth(), 2);
        due("flips()", x.flips(), 1);
    }

    /**
     * R1 holds an object of 2 cells and that another one, R2 one of 3 cells and that another one;
     * a flip made them old and left a new one in R0. Then the call, whose callee makes one-cell
     * objects: each scans a cell.
     */
    private static ReadBarrierMachine callInRow(int... call) {
        ReadBarrierMachine x = Lines.sized(36, 1, 2, 3, 1, 7);
        int callee = Lines.method(x, -1, Lines.make(2, 2), Lines.jump(0));
        x.bind(1, 0, callee);
        x.bind(3, 0, callee);
        x.start(Lines.method(x, -1, Lines.make(0, 0), Lines.make(1, 0), Lines.put(1, 0, 0), Lines.make(0, 1),
                Lines.make(2, 1), Lines.put(2, 0, 0), Lines.make(0, 3), Lines.make(0, 3), Lines.make(0, 3),
                call, Lines.giveBack(0, 0)), 0);
        x.run(9);
        room(x, 16, 9, 9);
        x.run(1);
        room(x, 30, 5, 9 + 3 + 2);
        x.run(1);
        room(x, 31, 4, 1);
        x.run(2);
        return x;
    }

    private static void callReadsBeforeItScans() {
        CHECKS.sentence("terms", "CALL Rx (before the making scans)");
        // Rx is R2, so that its object comes into the row first; its ref is the second cell scanned.
        room(callInRow(Lines.call(2, 0, 0)), 35, 6, 1 + 3);
        CHECKS.sentence("terms", "then, if .. the frame was made, Rx and Ry (Ry not before the making)");
        // Ry is R2: the making scans R1 first, so that R1's object comes into the row first.
        room(callInRow(Lines.call(0, 2, 0)), 34, 5, 1 + 2);
    }

    /** In a room of 40 cells: a callee that makes objects of kind 1 in R1 up to a flip. */
    private static ReadBarrierMachine inCallee(int handler, int... last) {
        ReadBarrierMachine x = Lines.machine(40, 1);
        int[][] lines = new int[7][];
        java.util.Arrays.fill(lines, Lines.make(1, 1));
        x.bind(1, 0, Lines.method(x, handler, Lines.joined(lines, last)));
        x.start(Lines.method(x, -1, Lines.make(0, 1), Lines.call(0, 0, 0), Lines.giveBack(0, 2)), 5);
        x.run(2 + 7);
        due("flips()", x.flips(), 1);
        room(x, 12, 9, 9);
        due("live()", x.live(), 24);
        return x;
    }

    private static void returnReads() {
        CHECKS.sentence("terms", "RETURN Rx, then LINK. (both are old)");
        ReadBarrierMachine x = inCallee(-1, Lines.giveBack(0, 0));
        x.run(1);
        room(x, 24, 21, 12);
        due("depth()", x.depth(), 1);
        due("kindAt(2, -1)", x.kindAt(2, -1), 1);
        due("number(2)", x.number(2), 5);
        due("live()", x.live(), 12);
        CHECKS.sentence("terms", "RETURN Rx, then LINK. (Rx is new)");
        x = inCallee(-1, Lines.giveBack(1, 0));
        x.run(1);
        room(x, 21, 18, 9);
        due("live()", x.live(), 15);
    }

    private static void pendingExceptionReads() {
        CHECKS.sentence("terms", "A step with an exception pending and no handler: LINK.");
        ReadBarrierMachine x = inCallee(-1, Lines.raise(0));
        x.run(1);
        room(x, 12, 9, 0);
        due("depth()", x.depth(), 2);
        x.run(1);
        room(x, 21, 18, 9);
        due("depth()", x.depth(), 1);
        x.run(1);
        room(x, 21, 18, 0);
        due("state()", x.state(), 2);
        due("result()", x.result(), 5);
    }

    private static void handlerReadsNothing() {
        CHECKS.sentence("terms", "A step with an exception pending and no handler (there is one)");
        ReadBarrierMachine x = inCallee(7, Lines.raise(0));
        x.run(1);
        room(x, 12, 9, 0);
        x.run(1);
        room(x, 12, 9, 0);
        due("depth()", x.depth(), 2);
        due("number(2)", x.number(2), 5);
    }

    private static void scanFollowsTheRow() {
        CHECKS.sentence("terms", "The row is DONE when all are. (a chain that the scan itself finds)");
        ReadBarrierMachine x = Lines.machine(24, 8);
        int m = Lines.method(x, -1, Lines.make(0, 1), Lines.make(1, 1), Lines.put(1, 0, 0), Lines.make(0, 1),
                Lines.put(0, 1, 0), Lines.clear(1), Lines.make(2, 1), Lines.make(2, 1), Lines.make(2, 1),
                Lines.make(2, 1), Lines.giveBack(0, 0));
        x.start(m, 0);
        x.run(9);
        due("flips()", x.flips(), 1);
        room(x, 12, 9, 9);
        x.run(1);
        // 24 cells may be scanned; the frame has 9, and each of the chain's three objects 3.
        room(x, 24, 0, 27);
        due("state()", x.state(), 0);
        due("live()", x.live(), 21);
        due("kindAt(0, 0)", x.kindAt(0, 0), 1);
    }

    private static void roomIsGotBack() {
        CHECKS.sentence("what it is", "whose room is got back while it runs");
        ReadBarrierMachine x = Lines.machine(40, 2);
        int m = Lines.method(x, -1, Lines.constant(1, 1), Lines.make(0, 1), Lines.make(1, 1), Lines.put(0, 1, 0),
                Lines.add(0, 0, 1), Lines.store(1, 0, 0), Lines.get(2, 0, 0), Lines.load(2, 2, 0), Lines.show(2),
                Lines.jump(1));
        x.start(m, 0);
        x.run(1);
        for (int round = 1; round <= 100; round++) {
            due("run(9)", x.run(9), 9);
            due("shown(0)", x.shown(0), round);
            due("live()", x.live(), 15);
            due("enough room", x.used() <= 40 ? 1 : 0, 1);
        }
        due("state()", x.state(), 0);
        due("many flips", x.flips() > 20 ? 1 : 0, 1);
    }

    private static void sharedObjectsStayShared() {
        CHECKS.sentence("terms", "An old object IS MOVED (one object by two refs, through many flips)");
        ReadBarrierMachine x = Lines.machine(30, 3);
        int m = Lines.method(x, -1, Lines.make(0, 1), Lines.copy(1, 0), Lines.put(0, 1, 0), Lines.make(2, 1),
                Lines.store(0, 0, 0), Lines.load(1, 1, 0), Lines.show(1), Lines.get(2, 1, 0), Lines.load(2, 2, 0),
                Lines.show(2), Lines.add(0, 0, 0), Lines.jump(3));
        x.start(m, 1);
        x.run(3);
        int value = 1;
        for (int round = 0; round < 60; round++) {
            x.run(9);
            due("by R1", x.shown(1), value);
            due("by the ref to itself", x.shown(0), value);
            due("live()", x.live(), 12);
            value += value;
        }
        due("flips", x.flips() > 5 ? 1 : 0, 1);
    }

    private static void callersStayThroughFlips() {
        CHECKS.sentence("terms", "frames of calls are objects like others (moved in the caller, then in the callee)");
        for (int cells = 25; cells <= 32; cells++) {
            ReadBarrierMachine x = Lines.machine(cells, 8);
            int[][] makings = new int[8][];
            java.util.Arrays.fill(makings, Lines.make(1, 0));
            x.bind(1, 0, Lines.method(x, -1, Lines.joined(makings, Lines.add(0, 0, 0), Lines.load(2, 0, 0),
                    Lines.add(2, 2, 0), Lines.giveBack(0, 2))));
            x.start(Lines.method(x, -1, Lines.make(0, 1), Lines.store(0, 0, 0), Lines.make(2, 0), Lines.make(2, 0),
                    Lines.call(0, 1, 0), Lines.jump(2)), 7);
            x.run(2);
            for (int round = 0; round < 60; round++) {
                x.run(3);
                due("depth() in the call", x.depth(), 2);
                x.run(8 + 4);
                due("depth() behind it", x.depth(), 1);
                due("PLACE of the caller", x.number(3), 5);
                due("I0 of the caller", x.number(0), 7);
                due("I2 of the caller", x.number(2), 21);
                x.run(1);
            }
            due("state()", x.state(), 0);
            due("many flips", x.flips() > 50 ? 1 : 0, 1);
        }
    }
}
