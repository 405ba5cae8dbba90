/**
 * What is read, scanned and moved, instruction by instruction, and how room runs out in the
 * middle of each. Objects of the kinds 0, 1 and 2 of Lines.machine have the sizes 1, 3 and 7.
 */
public final class BarrierTest {
    private static final Checks CHECKS = new Checks();

    // In a room of 24 cells: leaves R0 and R1 old, R0's ref 0 holding R1's object, R2 new, the
    // frame moved and not scanned; 12 cells are used.
    private static final int[][] OLD_REGISTERS = {
        Lines.make(0, 1), Lines.make(1, 1), Lines.put(0, 1, 0),
        Lines.make(2, 1), Lines.make(2, 1), Lines.make(2, 1), Lines.make(2, 1)
    };

    private BarrierTest() {
    }

    public static void main(String[] args) {
        readsOfOneInstruction();
        readsOfNone();
        readsWithExceptions();
        readingTwiceMovesOnce();
        returnAtTheEndReads();
        callReadsAfterTheFlip();
        callScansBeforeItReads();
        callRunsOutAtReceiver();
        callRunsOutAtArgument();
        returnReadsAnswerThenLink();
        returnRunsOutAtAnswer();
        returnRunsOutAtLink();
        exceptionReadsLink();
        exceptionRunsOutAtLink();
        readRunsOut();
        scanRunsOut();
        scanRunsOutAtLink();
        rowDoneInTime();
        rowNotDone();
        scanGoesByCells();
        scanFollowsTheRow();
        garbageIsLeftBehind();
        sharedObjectsStayShared();
        CHECKS.end();
    }

    private static void due(String call, int got, int want) {
        CHECKS.due(call, got, want);
    }

    private static void room(ReadBarrierMachine x, int used, int grey, int work) {
        due("used()", x.used(), used);
        due("grey()", x.grey(), grey);
        due("work()", x.work(), work);
    }

    /** A machine of 24 cells, stopped behind OLD_REGISTERS and before the line. */
    private static ReadBarrierMachine before(int... line) {
        ReadBarrierMachine x = Lines.machine(24, 1);
        int m = Lines.method(x, -1, Lines.joined(OLD_REGISTERS, line, Lines.jump(0)));
        x.start(m, 0);
        x.run(7);
        room(x, 12, 9, 9);
        due("flips()", x.flips(), 1);
        due("live()", x.live(), 18);
        return x;
    }

    /** The line moves so many cells, and nothing is scanned. */
    private static void moves(String name, int cells, int... line) {
        CHECKS.about(name);
        ReadBarrierMachine x = before(line);
        x.run(1);
        room(x, 12 + cells, 9 + cells, cells);
        due("flips()", x.flips(), 1);
    }

    private static void readsOfOneInstruction() {
        moves("COPY of an old one", 3, Lines.copy(2, 1));
        moves("COPY onto an old one", 0, Lines.copy(0, 2));
        moves("COPY of a new one", 0, Lines.copy(2, 2));
        moves("GET", 6, Lines.get(2, 0, 0));
        moves("GET of NONE", 3, Lines.get(2, 1, 0));
        moves("GET from a new one onto an old one", 0, Lines.get(0, 2, 0));
        moves("PUT of an old one into an old one", 6, Lines.put(0, 1, 0));
        moves("PUT of an old one into a new one", 3, Lines.put(2, 1, 0));
        moves("PUT of a new one into an old one", 3, Lines.put(1, 2, 0));
        moves("LOAD", 3, Lines.load(0, 1, 0));
        moves("LOAD of a new one", 0, Lines.load(0, 2, 0));
        moves("STORE", 3, Lines.store(1, 0, 0));
        moves("STORE into a new one", 0, Lines.store(2, 0, 0));
        moves("VOID", 3, Lines.ifVoid(0, 0));
        moves("VOID of a new one", 0, Lines.ifVoid(2, 0));
    }

    private static void readsOfNone() {
        moves("CONST", 0, Lines.constant(0, 1));
        moves("ADD", 0, Lines.add(0, 0, 1));
        moves("CLEAR", 0, Lines.clear(0));
        moves("JUMP", 0, Lines.jump(0));
        moves("ZERO", 0, Lines.ifZero(0, 0));
        moves("THROW", 0, Lines.raise(0));
        moves("SHOW", 0, Lines.show(0));
    }

    private static void readsWithExceptions() {
        moves("GET, no such ref", 3, Lines.get(2, 0, 1));
        moves("PUT, no such ref", 3, Lines.put(0, 1, 1));
        moves("LOAD, no such int", 3, Lines.load(0, 1, 1));
        moves("STORE, no such int", 3, Lines.store(0, 1, 1));
        moves("CALL, no method", 3, Lines.call(0, 1, 0));
        CHECKS.about("PUT into NONE reads no more");
        ReadBarrierMachine x = Lines.machine(24, 1);
        int m = Lines.method(x, -1, Lines.joined(OLD_REGISTERS, Lines.clear(2), Lines.put(2, 1, 0), Lines.jump(0)));
        x.start(m, 0);
        x.run(8);
        x.run(1);
        room(x, 12, 9, 0);
    }

    private static void readingTwiceMovesOnce() {
        CHECKS.about("reading twice");
        ReadBarrierMachine x = Lines.machine(24, 1);
        int m = Lines.method(x, -1, Lines.joined(OLD_REGISTERS, Lines.copy(2, 1), Lines.copy(0, 1),
                Lines.ifVoid(1, 0), Lines.put(1, 0, 0), Lines.jump(11)));
        x.start(m, 0);
        x.run(7);
        x.run(4);
        room(x, 15, 12, 3);
        due("kindAt(1, 0)", x.kindAt(1, 0), 1);
        due("live()", x.live(), 12);
        CHECKS.about("moved through another ref");
        x = Lines.machine(24, 1);
        m = Lines.method(x, -1, Lines.joined(OLD_REGISTERS, Lines.get(2, 0, 0), Lines.ifVoid(1, 0),
                Lines.store(1, 0, 0), Lines.load(1, 2, 0), Lines.jump(11)));
        x.start(m, 66);
        x.run(8);
        room(x, 18, 15, 9);
        x.run(1);
        room(x, 18, 15, 0);
        x.run(2);
        due("one object by both refs", x.number(1), 66);
    }

    private static void returnAtTheEndReads() {
        CHECKS.about("RETURN with no LINK");
        ReadBarrierMachine x = before(Lines.giveBack(0, 0));
        x.run(1);
        room(x, 15, 12, 3);
        due("state()", x.state(), 1);
    }

    private static ReadBarrierMachine calling(int cells, int pace, int receiver, int argument) {
        ReadBarrierMachine x = Lines.machine(cells, pace);
        int callee = Lines.method(x, -1, Lines.giveBack(1, 0));
        x.bind(receiver, 1, callee);
        int m = Lines.method(x, -1, Lines.make(0, receiver), Lines.make(1, argument), Lines.call(0, 1, 1),
                Lines.giveBack(0, 0));
        x.start(m, 5);
        return x;
    }

    private static void callReadsAfterTheFlip() {
        CHECKS.about("CALL that flips");
        ReadBarrierMachine x = calling(24, 1, 1, 1);
        x.run(2);
        room(x, 15, 0, 0);
        x.run(1);
        due("flips()", x.flips(), 0);
        room(x, 24, 0, 0);
        x = calling(24, 1, 1, 1);
        int m = Lines.method(x, -1, Lines.make(2, 1), Lines.make(0, 1), Lines.make(1, 1), Lines.call(0, 1, 1),
                Lines.giveBack(0, 0));
        x.start(m, 5);
        x.run(4);
        due("flips()", x.flips(), 1);
        room(x, 24, 15, 15);
        due("depth()", x.depth(), 2);
        due("live()", x.live(), 27);
        due("kindAt(0, -1)", x.kindAt(0, -1), 1);
        due("kindAt(1, -1)", x.kindAt(1, -1), 1);
    }

    private static void callScansBeforeItReads() {
        CHECKS.about("CALL that scans");
        ReadBarrierMachine x = Lines.machine(33, 1);
        x.bind(1, 0, Lines.method(x, -1, Lines.giveBack(0, 0)));
        int m = Lines.method(x, -1, Lines.make(0, 1), Lines.make(1, 2), Lines.make(2, 2), Lines.make(2, 2),
                Lines.make(2, 0), Lines.call(0, 1, 0), Lines.giveBack(0, 0));
        x.start(m, 0);
        x.run(5);
        due("flips()", x.flips(), 1);
        room(x, 10, 9, 9);
        x.run(1);
        // R0 is read (3), then nine cells are scanned, which finds R1 (7), then the frame is made.
        room(x, 29, 10, 19);
        due("depth()", x.depth(), 2);
        due("flips()", x.flips(), 1);
    }

    private static void callRunsOutAtReceiver() {
        CHECKS.about("CALL, no room for the receiver");
        ReadBarrierMachine x = calling(24, 1, 2, 1);
        x.run(2);
        due("the step counts", x.run(9), 1);
        due("state()", x.state(), 3);
        // The frame was made (9), beside the caller (9); what is in R1 would go in, but is not read.
        room(x, 18, 9, 9);
        due("depth()", x.depth(), 1);
        due("number(3)", x.number(3), 3);
        due("live()", x.live(), 19);
        due("flips()", x.flips(), 1);
        due("result()", x.result(), 0);
    }

    private static void callRunsOutAtArgument() {
        CHECKS.about("CALL, no room for the argument");
        ReadBarrierMachine x = calling(24, 1, 1, 2);
        x.run(2);
        due("the step counts", x.run(9), 1);
        due("state()", x.state(), 3);
        room(x, 21, 12, 12);
        due("depth()", x.depth(), 1);
        due("live()", x.live(), 19);
        due("kindAt(1, -1)", x.kindAt(1, -1), 2);
    }

    /** A callee that makes n objects of kind 1 in R1 and then has the last line. */
    private static ReadBarrierMachine inCallee(int cells, int receiver, int n, int... last) {
        ReadBarrierMachine x = Lines.machine(cells, 1);
        int[][] lines = new int[0][];
        for (int i = 0; i < n; i++) {
            lines = Lines.joined(lines, Lines.make(1, 1));
        }
        x.bind(receiver, 0, Lines.method(x, -1, Lines.joined(lines, last)));
        int m = Lines.method(x, -1, Lines.make(0, receiver), Lines.call(0, 0, 0), Lines.giveBack(0, 2));
        x.start(m, 5);
        x.run(2 + n);
        due("flips()", x.flips(), 1);
        return x;
    }

    private static void returnReadsAnswerThenLink() {
        CHECKS.about("RETURN, old answer and old LINK");
        ReadBarrierMachine x = inCallee(40, 1, 7, Lines.giveBack(0, 0));
        room(x, 12, 9, 9);
        due("live()", x.live(), 24);
        x.run(1);
        room(x, 24, 21, 12);
        due("depth()", x.depth(), 1);
        due("kindAt(2, -1)", x.kindAt(2, -1), 1);
        due("number(2)", x.number(2), 5);
        due("live()", x.live(), 12);
        CHECKS.about("RETURN, new answer and old LINK");
        x = inCallee(40, 1, 7, Lines.giveBack(1, 0));
        x.run(1);
        room(x, 21, 18, 9);
        due("live()", x.live(), 15);
    }

    private static void scanRunsOutAtLink() {
        CHECKS.about("no room for LINK in the middle of a scan");
        ReadBarrierMachine x = Lines.machine(26, 1);
        x.bind(2, 0, Lines.method(x, -1, Lines.make(1, 1), Lines.make(1, 1), Lines.make(1, 1), Lines.make(1, 1),
                Lines.giveBack(0, 0)));
        int m = Lines.method(x, -1, Lines.make(0, 2), Lines.call(0, 0, 0), Lines.giveBack(0, 2));
        x.start(m, 5);
        x.run(3);
        // The callee (9) and an object.
        room(x, 12, 9, 9);
        due("flips()", x.flips(), 1);
        x.run(1);
        // The head and R0 (7), which is moved, and R1, which is new.
        room(x, 22, 13, 10);
        // R2 and LINK: the caller (9) doesn't go in.
        due("the step counts", x.run(9), 1);
        due("state()", x.state(), 3);
        room(x, 22, 11, 2);
        x = Lines.machine(25, 1);
        x.bind(0, 0, Lines.method(x, -1, Lines.make(1, 2), Lines.make(1, 2), Lines.giveBack(1, 0)));
        m = Lines.method(x, -1, Lines.make(0, 0), Lines.call(0, 0, 0), Lines.giveBack(0, 2));
        x.start(m, 5);
        x.run(3);
        due("flips()", x.flips(), 1);
        room(x, 16, 9, 9);
        x.run(1);
        // Seven cells: R0 (1) is moved; LINK needs 9 and has 8 left.
        due("state()", x.state(), 3);
        room(x, 17, 5, 6);
    }

    private static void returnRunsOutAtAnswer() {
        CHECKS.about("RETURN, no room for the answer");
        ReadBarrierMachine x = Lines.machine(24, 1);
        int m = Lines.method(x, -1, Lines.make(0, 2), Lines.make(1, 2), Lines.make(2, 0), Lines.make(2, 1),
                Lines.copy(2, 0), Lines.giveBack(1, 0));
        x.start(m, 5);
        x.run(4);
        room(x, 12, 9, 9);
        x.run(1);
        room(x, 19, 16, 7);
        due("the step counts", x.run(9), 1);
        due("out of room, not ended by RETURN", x.state(), 3);
        due("result()", x.result(), 0);
        room(x, 19, 16, 0);
    }

    private static void returnRunsOutAtLink() {
        CHECKS.about("RETURN, no room for LINK");
        ReadBarrierMachine x = Lines.machine(26, 1);
        x.bind(0, 0, Lines.method(x, -1, Lines.make(1, 2), Lines.make(1, 2), Lines.make(1, 0), Lines.make(1, 0),
                Lines.copy(2, 0), Lines.giveBack(2, 0)));
        int m = Lines.method(x, -1, Lines.make(0, 0), Lines.call(0, 0, 0), Lines.giveBack(0, 2));
        x.start(m, 5);
        x.run(5);
        due("flips()", x.flips(), 1);
        // The callee, an object of kind 2, one of kind 0; the head is scanned.
        room(x, 17, 8, 9);
        x.run(1);
        // R0 is scanned and moved.
        room(x, 19, 8, 2);
        x.run(1);
        room(x, 19, 8, 0);
        due("the step counts", x.run(9), 1);
        due("state()", x.state(), 3);
        room(x, 19, 8, 0);
        due("depth()", x.depth(), 2);
        due("live()", x.live(), 20);
        due("number(3)", x.number(3), 6);
    }

    private static void exceptionReadsLink() {
        CHECKS.about("an exception that goes up");
        ReadBarrierMachine x = inCallee(40, 1, 7, Lines.raise(0));
        x.run(1);
        room(x, 12, 9, 0);
        due("depth()", x.depth(), 2);
        x.run(1);
        room(x, 21, 18, 9);
        due("depth()", x.depth(), 1);
        x.run(1);
        room(x, 21, 18, 0);
        due("state()", x.state(), 2);
        due("result()", x.result(), 5);
    }

    private static void exceptionRunsOutAtLink() {
        CHECKS.about("an exception, no room for LINK");
        ReadBarrierMachine x = Lines.machine(26, 1);
        x.bind(0, 0, Lines.method(x, -1, Lines.make(1, 2), Lines.make(1, 2), Lines.make(1, 0), Lines.make(1, 0),
                Lines.raise(0)));
        int m = Lines.method(x, -1, Lines.make(0, 0), Lines.call(0, 0, 0), Lines.giveBack(0, 2));
        x.start(m, 5);
        x.run(7);
        due("pending", x.state(), 0);
        due("the step counts", x.run(9), 1);
        due("state()", x.state(), 3);
        due("result()", x.result(), 0);
        due("depth()", x.depth(), 2);
        room(x, 19, 8, 0);
    }

    /** R0 and R1 are old with 7 cells each, in a room of 24 cells of which 19 are used then. */
    private static ReadBarrierMachine crowded(int... line) {
        ReadBarrierMachine x = Lines.machine(24, 1);
        int m = Lines.method(x, -1, Lines.make(0, 2), Lines.make(1, 2), Lines.put(0, 1, 0), Lines.put(1, 0, 0),
                Lines.make(2, 0), Lines.make(2, 1), Lines.ifVoid(0, 0), line, Lines.jump(9), Lines.giveBack(0, 0));
        x.start(m, 1);
        x.run(6);
        room(x, 12, 9, 9);
        x.run(1);
        room(x, 19, 16, 7);
        return x;
    }

    private static void readRunsOut() {
        int[][] lines = {
            Lines.copy(2, 1), Lines.get(2, 0, 0), Lines.get(2, 1, 0), Lines.put(0, 1, 1), Lines.put(1, 2, 0),
            Lines.load(0, 1, 0), Lines.store(1, 0, 0), Lines.ifVoid(1, 9), Lines.call(1, 0, 0),
            Lines.giveBack(1, 0), Lines.get(2, 1, 2), Lines.put(2, 1, 0)
        };
        for (int[] line : lines) {
            CHECKS.about("no room for what instruction " + line[0] + " reads");
            ReadBarrierMachine x = crowded(line);
            due("the step counts", x.run(9), 1);
            due("state()", x.state(), 3);
            room(x, 19, 16, 0);
            due("live()", x.live(), 26);
            due("number(0)", x.number(0), 1);
            due("number(3)", x.number(3), 8);
            due("kindAt(2, -1)", x.kindAt(2, -1), 1);
            due("kindAt(2, 0)", x.kindAt(2, 0), -1);
            due("kindAt(0, 0)", x.kindAt(0, 0), 2);
            due("kindAt(0, 1)", x.kindAt(0, 1), -1);
            due("kindAt(1, 0)", x.kindAt(1, 0), 2);
            due("result()", x.result(), 0);
            due("depth()", x.depth(), 1);
            due("run(1)", x.run(1), 0);
            due("work()", x.work(), 0);
        }
    }

    private static void scanRunsOut() {
        CHECKS.about("no room in the middle of a scan");
        ReadBarrierMachine x = Lines.machine(24, 1);
        int m = Lines.method(x, -1, Lines.make(0, 2), Lines.make(1, 2), Lines.make(2, 0), Lines.make(2, 1),
                Lines.make(2, 2), Lines.jump(0));
        x.start(m, 0);
        x.run(4);
        room(x, 12, 9, 9);
        due("the step counts", x.run(9), 1);
        due("state()", x.state(), 3);
        // The head, R0 (moved, 7) and R1, which does not go in: three cells are scanned.
        room(x, 19, 13, 10);
        due("live()", x.live(), 26);
        due("kindAt(2, -1)", x.kindAt(2, -1), 1);
        due("number(3)", x.number(3), 5);
    }

    private static void rowDoneInTime() {
        CHECKS.about("the row is done just in time");
        ReadBarrierMachine x = Lines.machine(24, 1);
        int small = Lines.method(x, -1, Lines.make(0, 0), Lines.jump(0));
        int m = Lines.method(x, -1, Lines.make(0, 2), Lines.make(0, 2), Lines.make(0, 2), Lines.make(0, 2),
                Lines.make(0, 2), Lines.jump(0));
        x.start(m, 0);
        x.run(3);
        room(x, 16, 9, 9);
        x.run(1);
        room(x, 23, 2, 7);
        x.run(1);
        due("two cells end the row: a flip", x.flips(), 2);
        room(x, 16, 9, 11);
        x.start(small, 0);
        due("all goes well with small ones", x.run(200), 200);
        due("state()", x.state(), 0);
        CHECKS.about("the row is done by its last cell");
        x = Lines.machine(24, 1);
        m = Lines.method(x, -1, Lines.make(0, 2), Lines.make(0, 2), Lines.make(0, 2), Lines.make(1, 2),
                Lines.make(1, 0), Lines.make(1, 0), Lines.jump(5));
        x.start(m, 0);
        x.run(4);
        room(x, 23, 2, 9);
        x.run(1);
        room(x, 24, 1, 1);
        x.run(1);
        due("one cell ends the row: a flip", x.flips(), 2);
        room(x, 10, 9, 10);
    }

    private static void rowNotDone() {
        CHECKS.about("the row is not done when room ends");
        ReadBarrierMachine x = Lines.machine(24, 1);
        int m = Lines.method(x, -1, Lines.make(0, 2), Lines.make(1, 2), Lines.make(2, 2), Lines.copy(2, 0),
                Lines.clear(1), Lines.make(1, 0), Lines.make(1, 0), Lines.jump(6));
        x.start(m, 0);
        x.run(3);
        room(x, 16, 9, 9);
        x.run(2);
        room(x, 23, 16, 7);
        x.run(1);
        room(x, 24, 15, 1);
        due("the step counts", x.run(9), 1);
        due("state()", x.state(), 3);
        room(x, 24, 14, 1);
        due("flips()", x.flips(), 1);
        due("live()", x.live(), 17);
    }

    private static void scanGoesByCells() {
        CHECKS.about("cells in their order");
        ReadBarrierMachine x = Lines.machine(40, 1);
        int m = Lines.method(x, -1, Lines.make(0, 1), Lines.make(1, 1), Lines.make(2, 2), Lines.make(2, 2),
                Lines.make(2, 2), Lines.make(2, 2), Lines.make(2, 0), Lines.jump(6));
        x.start(m, 0);
        x.run(6);
        due("flips()", x.flips(), 1);
        room(x, 16, 9, 9);
        int[] used = {17, 21, 25, 26, 27, 28, 29, 30, 31, 32, 33, 34};
        int[] grey = {8, 10, 12, 11, 10, 9, 8, 7, 6, 5, 4, 3};
        int[] work = {1, 4, 4, 1, 1, 1, 1, 1, 1, 1, 1, 1};
        for (int i = 0; i < used.length; i++) {
            x.run(1);
            room(x, used[i], grey[i], work[i]);
            x.run(1);
        }
    }

    private static void scanFollowsTheRow() {
        CHECKS.about("a chain in one scan");
        ReadBarrierMachine x = Lines.machine(24, 8);
        int m = Lines.method(x, -1, Lines.make(0, 1), Lines.make(1, 1), Lines.put(1, 0, 0), Lines.make(0, 1),
                Lines.put(0, 1, 0), Lines.clear(1), Lines.make(2, 1), Lines.make(2, 1), Lines.make(2, 1),
                Lines.make(2, 1), Lines.giveBack(0, 0));
        x.start(m, 0);
        x.run(9);
        due("flips()", x.flips(), 1);
        room(x, 12, 9, 9);
        x.run(1);
        // 24 cells may be scanned; the frame has 9, and each of the chain's three objects 3.
        room(x, 24, 0, 27);
        due("state()", x.state(), 0);
        due("live()", x.live(), 21);
        due("kindAt(0, 0)", x.kindAt(0, 0), 1);
    }

    private static void garbageIsLeftBehind() {
        CHECKS.about("room is got back for ever");
        ReadBarrierMachine x = Lines.machine(40, 2);
        int m = Lines.method(x, -1, Lines.constant(1, 1), Lines.make(0, 1), Lines.make(1, 1), Lines.put(0, 1, 0),
                Lines.add(0, 0, 1), Lines.store(1, 0, 0), Lines.get(2, 0, 0), Lines.load(2, 2, 0), Lines.show(2),
                Lines.jump(1));
        x.start(m, 0);
        x.run(1);
        for (int round = 1; round <= 200; round++) {
            due("run(9)", x.run(9), 9);
            due("shown(0)", x.shown(0), round);
            due("live()", x.live(), 15);
            due("enough room", x.used() <= 40 ? 1 : 0, 1);
        }
        due("state()", x.state(), 0);
        due("many flips", x.flips() > 20 ? 1 : 0, 1);
    }

    private static void sharedObjectsStayShared() {
        CHECKS.about("one object by two refs, through flips");
        ReadBarrierMachine x = Lines.machine(30, 3);
        int m = Lines.method(x, -1, Lines.make(0, 1), Lines.copy(1, 0), Lines.put(0, 1, 0), Lines.make(2, 1),
                Lines.store(0, 0, 0), Lines.load(1, 1, 0), Lines.show(1), Lines.get(2, 1, 0), Lines.load(2, 2, 0),
                Lines.show(2), Lines.add(0, 0, 0), Lines.jump(3));
        x.start(m, 1);
        x.run(3);
        int value = 1;
        for (int round = 0; round < 60; round++) {
            x.run(9);
            due("by R1", x.shown(1), value);
            due("by the ref to itself", x.shown(0), value);
            due("live()", x.live(), 12);
            value += value;
        }
        due("flips", x.flips() > 5 ? 1 : 0, 1);
    }
}
