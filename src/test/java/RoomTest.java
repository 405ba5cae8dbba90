/**
 * The part "GETTING ROOM BACK" of the section "Terms". One test for each sentence that names an
 * edge, on both sides of that edge: what just goes into the room, and what is one cell too much.
 */
public final class RoomTest {
    private static final int NOT_ENDED = 0;
    private static final int BY_RETURN = 1;
    private static final int UNCAUGHT = 2;
    private static final int OUT_OF_ROOM = 3;

    private static final Checks CHECKS = new Checks();

    private RoomTest() {
    }

    public static void main(String[] args) {
        movedIfItGoesIn();
        movedIfItGoesInByCallReceiver();
        movedIfItGoesInByCallArgument();
        movedIfItGoesInByReturn();
        movedIfItGoesInByReturnLink();
        movedIfItGoesInByException();
        movedIfItGoesInByScan();
        movedIfItGoesInByScanOfAnObject();
        movedIfItGoesInByScanOfLink();
        nothingMoreIsDoneInAScan();
        movedIsTheLastOfTheRow();
        movedHasNoCellScanned();
        scannedCellByCell();
        fewerIfTheRowIsDone();
        fewerIfTheRowIsDoneByCall();
        makingUpToTheRoom();
        makingAFrameUpToTheRoom();
        rowDoneOrNot();
        flipMakesNewOnesOld();
        flipMovesTheCurrentFrame();
        flipForgetsTheOldOnes();
        roomAfterAFlip();
        madeAsANewOne();
        workOfAStep();
        CHECKS.end();
    }

    private static void due(String call, int got, int want) {
        CHECKS.due(call, got, want);
    }

    private static void room(String name, ReadBarrierMachine x, int used, int grey, int work) {
        due(name + ": used()", x.used(), used);
        due(name + ": grey()", x.grey(), grey);
        due(name + ": work()", x.work(), work);
    }

    /**
     * In a room of 24 cells: R0 and R1 hold objects of 5 cells, R0's ref 0 holds R1's. A flip makes
     * them old and leaves an object of some cells in R2; then R0's is moved, and the line is next.
     */
    private static ReadBarrierMachine crowded(int cellsInR2, int[] line) {
        ReadBarrierMachine x = Lines.sized(24, 1, 5, 3, cellsInR2);
        x.start(Lines.method(x, -1, Lines.make(0, 0), Lines.make(1, 0), Lines.put(0, 1, 0), Lines.store(1, 0, 0),
                Lines.make(2, 1), Lines.make(2, 2), Lines.ifVoid(0, 0), line, Lines.giveBack(2, 2)), 61);
        x.run(6);
        room("at the flip", x, 9 + cellsInR2, 9, 9);
        due("flips()", x.flips(), 1);
        x.run(1);
        room("R0 was read", x, 14 + cellsInR2, 14, 5);
        return x;
    }

    private static void movedIfItGoesIn() {
        CHECKS.sentence("terms", "if USED and its size together are at most H; if they are not, the machine ends "
                + "OUT OF ROOM at once, in the middle of what it does, and nothing more is done");
        int[][] lines = {
            Lines.copy(2, 1), Lines.get(2, 1, 0), Lines.get(2, 0, 0), Lines.get(2, 1, 2), Lines.put(1, 2, 1),
            Lines.put(0, 1, 1), Lines.put(1, 0, 2), Lines.load(1, 1, 0), Lines.load(1, 1, 2), Lines.store(1, 1, 0),
            Lines.store(1, 0, 2), Lines.ifVoid(1, 0), Lines.call(1, 0, 0), Lines.giveBack(1, 0)
        };
        for (int[] line : lines) {
            String name = "instruction " + line[0] + " " + line[1] + " " + line[2] + " " + line[3];
            ReadBarrierMachine x = crowded(5, line);
            due(name + " goes in: run(1)", x.run(1), 1);
            room(name + " goes in", x, 24, 19, 5);
            due(name + " goes in: state()", x.state(), line[0] == 13 ? BY_RETURN : NOT_ENDED);
            x = crowded(6, line);
            due(name + " does not: run(9)", x.run(9), 1);
            due(name + " does not: state()", x.state(), OUT_OF_ROOM);
            room(name + " does not", x, 20, 14, 0);
            nothingWasDone(name, x);
        }
    }

    private static void nothingWasDone(String name, ReadBarrierMachine x) {
        due(name + ": PLACE", x.number(3), 8);
        due(name + ": result()", x.result(), 0);
        due(name + ": flips()", x.flips(), 1);
        due(name + ": live()", x.live(), 9 + 5 + 5 + 6);
        due(name + ": number(1)", x.number(1), 0);
        due(name + ": kindAt(2, -1)", x.kindAt(2, -1), 2);
        due(name + ": kindAt(2, 0)", x.kindAt(2, 0), -1);
        due(name + ": kindAt(0, 0)", x.kindAt(0, 0), 0);
        due(name + ": kindAt(0, 1)", x.kindAt(0, 1), -1);
        due(name + ": kindAt(1, 0)", x.kindAt(1, 0), -1);
        due(name + ": kindAt(1, 1)", x.kindAt(1, 1), -1);
        due(name + ": run(1) after the end", x.run(1), 0);
    }

    /** The call flips: 18 cells are used when the frame was made, and Rx and Ry are old. */
    private static ReadBarrierMachine calling(int receiver, int argument, int y) {
        ReadBarrierMachine x = Lines.sized(24, 1, receiver, argument, 1);
        x.bind(0, 0, Lines.method(x, -1, Lines.giveBack(1, 0)));
        x.start(Lines.method(x, -1, Lines.make(0, 0), Lines.make(1, 1), Lines.make(2, 2), Lines.call(0, y, 0),
                Lines.giveBack(0, 0)), 5);
        x.run(3);
        due("flips() before the call", x.flips(), 0);
        due("run(1)", x.run(1), 1);
        due("flips() in the call", x.flips(), 1);
        return x;
    }

    private static void movedIfItGoesInByCallReceiver() {
        CHECKS.sentence("terms", "CALL Rx; then, if there is no exception and the frame was made, Rx (no room for it)");
        ReadBarrierMachine x = calling(6, 1, 0);
        room("6 cells go in", x, 24, 15, 15);
        due("state()", x.state(), NOT_ENDED);
        due("depth()", x.depth(), 2);
        x = calling(7, 1, 0);
        room("7 cells do not", x, 18, 9, 9);
        due("state()", x.state(), OUT_OF_ROOM);
        due("the caller is the current one still", x.depth(), 1);
        due("PLACE", x.number(3), 4);
        due("live()", x.live(), 9 + 7 + 1 + 1);
        x = calling(7, 1, 1);
        room("what is in Ry goes in, but is not read", x, 18, 9, 9);
    }

    private static void movedIfItGoesInByCallArgument() {
        CHECKS.sentence("terms", "CALL Rx; then, if there is no exception and the frame was made, Rx and Ry "
                + "(no room for Ry)");
        ReadBarrierMachine x = calling(2, 4, 1);
        room("4 cells go in", x, 24, 15, 15);
        due("state()", x.state(), NOT_ENDED);
        due("depth()", x.depth(), 2);
        due("R0", x.kindAt(0, -1), 0);
        due("R1", x.kindAt(1, -1), 1);
        x = calling(2, 5, 1);
        room("5 cells do not", x, 20, 11, 11);
        due("state()", x.state(), OUT_OF_ROOM);
        due("the caller is the current one still", x.depth(), 1);
        due("PLACE", x.number(3), 4);
        due("live()", x.live(), 9 + 2 + 5 + 1);
    }

    /**
     * In a room of 24 cells: a call on an object of some cells. The callee makes one of 1 cell and,
     * with a flip, one of some cells, in R1, and comes to its last line.
     */
    private static ReadBarrierMachine inCallee(int receiver, int cellsInR1, int[] last) {
        ReadBarrierMachine x = Lines.sized(24, 1, receiver, 1, cellsInR1);
        x.bind(0, 0, Lines.method(x, -1, Lines.make(1, 1), Lines.make(1, 2), last));
        x.start(Lines.method(x, -1, Lines.make(0, 0), Lines.call(0, 0, 0), Lines.giveBack(0, 2)), 5);
        x.run(4);
        due("flips()", x.flips(), 1);
        room("at the flip", x, 9 + cellsInR1, 9, 9);
        due("depth()", x.depth(), 2);
        return x;
    }

    private static void movedIfItGoesInByReturn() {
        CHECKS.sentence("terms", "RETURN Rx, then LINK. (both go in, or Rx alone)");
        ReadBarrierMachine x = inCallee(5, 1, Lines.giveBack(0, 0));
        due("run(1)", x.run(1), 1);
        room("both go in", x, 24, 23, 14);
        due("state()", x.state(), NOT_ENDED);
        due("depth()", x.depth(), 1);
        due("R2", x.kindAt(2, -1), 0);
        due("I2", x.number(2), 5);
        x = inCallee(5, 2, Lines.giveBack(0, 0));
        due("run(9)", x.run(9), 1);
        room("Rx goes in, LINK does not", x, 16, 14, 5);
        due("state()", x.state(), OUT_OF_ROOM);
        due("depth()", x.depth(), 2);
        due("PLACE", x.number(3), 3);
        due("result()", x.result(), 0);
    }

    private static void movedIfItGoesInByReturnLink() {
        CHECKS.sentence("terms", "RETURN Rx, then LINK. (no room for LINK)");
        ReadBarrierMachine x = inCallee(1, 6, Lines.giveBack(1, 0));
        due("run(1)", x.run(1), 1);
        room("9 cells go in", x, 24, 18, 9);
        due("depth()", x.depth(), 1);
        x = inCallee(1, 7, Lines.giveBack(1, 0));
        due("run(9)", x.run(9), 1);
        room("9 cells do not", x, 16, 9, 0);
        due("state()", x.state(), OUT_OF_ROOM);
        due("depth()", x.depth(), 2);
        due("PLACE", x.number(3), 3);
    }

    private static void movedIfItGoesInByException() {
        CHECKS.sentence("terms", "A step with an exception pending and no handler: LINK. (no room for it)");
        ReadBarrierMachine x = inCallee(1, 6, Lines.raise(0));
        x.run(1);
        room("THROW", x, 15, 9, 0);
        due("run(1)", x.run(1), 1);
        room("9 cells go in", x, 24, 18, 9);
        due("depth()", x.depth(), 1);
        due("run(9)", x.run(9), 1);
        due("state()", x.state(), UNCAUGHT);
        due("result()", x.result(), 5);
        x = inCallee(1, 7, Lines.raise(0));
        x.run(1);
        room("THROW", x, 16, 9, 0);
        due("run(9)", x.run(9), 1);
        room("9 cells do not", x, 16, 9, 0);
        due("state()", x.state(), OUT_OF_ROOM);
        due("result()", x.result(), 0);
        due("depth()", x.depth(), 2);
    }

    private static void movedIfItGoesInByScan() {
        CHECKS.sentence("terms", "if it is a ref that holds an old object, that is moved "
                + "(into the last cell, or one too much)");
        for (int cells = 5; cells <= 6; cells++) {
            ReadBarrierMachine x = Lines.sized(24, 8, 5, 3, cells);
            x.start(Lines.method(x, -1, Lines.make(0, 0), Lines.make(1, 0), Lines.make(2, 1), Lines.make(2, 2),
                    Lines.make(2, 1), Lines.giveBack(0, 0)), 0);
            x.run(4);
            room("at the flip", x, 9 + cells, 9, 9);
            due("run(1)", x.run(1), 1);
            if (cells == 5) {
                // 9 cells of the frame and 5 each of R0's and R1's; then the room is full: a flip.
                room("both go in", x, 12, 9, 19 + 10 + 9);
                due("state()", x.state(), NOT_ENDED);
                due("flips()", x.flips(), 2);
            } else {
                room("R1's does not", x, 20, 11, 3 + 5);
                due("state()", x.state(), OUT_OF_ROOM);
                due("flips()", x.flips(), 1);
            }
        }
    }

    private static void movedIfItGoesInByScanOfAnObject() {
        CHECKS.sentence("terms", "SCANNING a cell (of an object that was moved)");
        for (int cells = 5; cells <= 6; cells++) {
            ReadBarrierMachine x = Lines.sized(24, 8, 5, 3, cells);
            x.start(Lines.method(x, -1, Lines.make(0, 0), Lines.make(1, 0), Lines.put(0, 1, 1), Lines.clear(1),
                    Lines.make(2, 1), Lines.make(2, 2), Lines.make(2, 1), Lines.giveBack(0, 0)), 0);
            x.run(6);
            room("at the flip", x, 9 + cells, 9, 9);
            due("run(1)", x.run(1), 1);
            if (cells == 5) {
                room("both go in", x, 12, 9, 19 + 10 + 9);
                due("state()", x.state(), NOT_ENDED);
            } else {
                // The frame's cells, then the head and two refs of R0's.
                room("the second does not", x, 20, 2, 12 + 5);
                due("state()", x.state(), OUT_OF_ROOM);
            }
        }
    }

    private static void movedIfItGoesInByScanOfLink() {
        CHECKS.sentence("terms", "SCANNING a cell (LINK of a frame)");
        for (int cells = 5; cells <= 6; cells++) {
            ReadBarrierMachine x = Lines.sized(24, 8, 1, 3, cells);
            x.bind(0, 0, Lines.method(x, -1, Lines.make(1, 2), Lines.make(1, 1), Lines.giveBack(1, 0)));
            x.start(Lines.method(x, -1, Lines.make(0, 0), Lines.make(0, 0), Lines.call(0, 2, 0),
                    Lines.giveBack(0, 2)), 5);
            x.run(4);
            room("at the flip", x, 9 + cells, 9, 9);
            due("run(1)", x.run(1), 1);
            due("depth()", x.depth(), 2);
            if (cells == 5) {
                // Both frames and the callee's R0 (1); then the room is full: a flip.
                room("LINK goes in", x, 12, 9, 19 + 10 + 9);
                due("state()", x.state(), NOT_ENDED);
            } else {
                room("LINK does not", x, 16, 5, 5 + 1);
                due("state()", x.state(), OUT_OF_ROOM);
            }
        }
    }

    private static void nothingMoreIsDoneInAScan() {
        CHECKS.sentence("terms", "at once, in the middle of what it does, and nothing more is done (in a scan)");
        ReadBarrierMachine x = Lines.sized(24, 1, 7, 1, 3);
        x.start(Lines.method(x, -1, Lines.make(0, 0), Lines.make(1, 0), Lines.make(2, 1), Lines.make(2, 2),
                Lines.make(2, 0), Lines.show(0), Lines.giveBack(0, 0)), 4);
        x.run(4);
        room("at the flip", x, 12, 9, 9);
        due("the step counts", x.run(9), 1);
        due("state()", x.state(), OUT_OF_ROOM);
        // The head, R0 (7, moved) and R1 (7): that cell is scanned, and four that might be are not.
        room("R1 does not go in", x, 19, 13, 3 + 7);
        due("R2 is the one before", x.kindAt(2, -1), 2);
        due("PLACE", x.number(3), 5);
        due("live()", x.live(), 9 + 7 + 7 + 3);
        due("shown(-1)", x.shown(-1), 0);
    }

    private static void movedIsTheLastOfTheRow() {
        CHECKS.sentence("terms", "The moved ones stand in a ROW, in the order in which they were moved");
        // R2 holds an object of 2 cells and that another one, R1 one of 3 cells and that another
        // one: all are old when they are read in turn. Then each making scans 4 cells.
        int[][] reads = {Lines.ifVoid(2, 0), Lines.ifVoid(1, 0)};
        int[][] works = {{4, 4, 4 + 2, 4 + 3}, {4, 4, 4 + 3, 4 + 2}};
        for (int first = 0; first <= 1; first++) {
            ReadBarrierMachine x = Lines.sized(30, 4, 2, 3, 1, 7);
            x.start(Lines.method(x, -1, Lines.make(0, 0), Lines.make(2, 0), Lines.put(2, 0, 0), Lines.make(0, 1),
                    Lines.make(1, 1), Lines.put(1, 0, 0), Lines.make(0, 3), Lines.make(0, 3), reads[first],
                    reads[1 - first], Lines.make(0, 2), Lines.jump(10)), 0);
            x.run(8);
            room("at the flip", x, 16, 9, 9);
            x.run(2);
            room("both were read", x, 21, 14, 3);
            for (int i = 0; i < 4; i++) {
                x.run(1);
                due("work of making " + i + ", order " + first, x.work(), works[first][i]);
                x.run(1);
            }
            room("at the end", x, 30, 3, 0);
        }
    }

    private static void movedHasNoCellScanned() {
        CHECKS.sentence("terms", "it becomes the last one of the row, none of its cells scanned");
        for (int size = 2; size <= 6; size++) {
            ReadBarrierMachine x = Lines.sized(24, 1, size, 7, 1);
            x.start(Lines.method(x, -1, Lines.make(0, 0), Lines.make(2, 1), Lines.make(2, 1), Lines.ifVoid(0, 0),
                    Lines.make(2, 2), Lines.make(2, 2), Lines.giveBack(0, 0)), 0);
            x.run(3);
            room("at the flip", x, 16, 9, 9);
            x.run(1);
            room("moved with " + size, x, 16 + size, 9 + size, size);
            x.run(1);
            room("the frame's head is scanned", x, 17 + size, 8 + size, 1);
            x.run(1);
            room("the frame's R0 is scanned", x, 18 + size, 7 + size, 1);
        }
    }

    private static void scannedCellByCell() {
        CHECKS.sentence("terms", "the first cell of the row that is not scanned is scanned from then on; "
                + "if it is a ref that holds an old object, that is moved");
        ReadBarrierMachine x = Lines.sized(40, 1, 3, 7, 1);
        x.start(Lines.method(x, -1, Lines.make(0, 0), Lines.make(1, 0), Lines.make(2, 1), Lines.make(2, 1),
                Lines.make(2, 1), Lines.make(2, 1), Lines.make(2, 2), Lines.jump(6)), 0);
        x.run(6);
        due("flips()", x.flips(), 1);
        room("at the flip", x, 16, 9, 9);
        // Head, R0 (old, 3), R1 (old, 3), R2, LINK, the ints; then the objects' cells.
        int[] used = {17, 21, 25, 26, 27, 28, 29, 30, 31, 32, 33, 34, 35, 36, 37};
        int[] grey = {8, 10, 12, 11, 10, 9, 8, 7, 6, 5, 4, 3, 2, 1, 0};
        int[] work = {1, 4, 4, 1, 1, 1, 1, 1, 1, 1, 1, 1, 1, 1, 1};
        for (int i = 0; i < used.length; i++) {
            x.run(1);
            room("making " + i, x, used[i], grey[i], work[i]);
            x.run(1);
        }
        x.run(1);
        room("the row is done", x, 38, 0, 0);
    }

    /** The method makes I0 objects of kind 0 in R0 and then comes to the line. */
    private static int madeThen(ReadBarrierMachine x, int[] line) {
        return Lines.method(x, -1, Lines.constant(1, -1), Lines.make(0, 0), Lines.add(0, 0, 1), Lines.ifZero(0, 5),
                Lines.jump(1), line, Lines.jump(5));
    }

    private static void runUpToTheLine(ReadBarrierMachine x, int made) {
        x.run(4 * made);
        due("the line is next", x.number(3), 5);
    }

    private static void fewerIfTheRowIsDone() {
        CHECKS.sentence("terms", "first, K s cells are scanned, one after the other, fewer if the row is done before");
        for (int pace = 1; pace <= 8; pace++) {
            for (int size = 1; size <= 7; size++) {
                ReadBarrierMachine x = Lines.sized(24, pace, 1, size);
                x.start(madeThen(x, Lines.make(0, 1)), 16);
                runUpToTheLine(x, 16);
                due("flips()", x.flips(), 1);
                due("the frame's cells", x.grey(), 9);
                x.run(1);
                int scanned = Math.min(9, pace * size);
                room("pace " + pace + ", size " + size, x, 10 + size, 9 - scanned, scanned);
            }
        }
    }

    private static void fewerIfTheRowIsDoneByCall() {
        CHECKS.sentence("terms", "MAKING an object of size s: first, K s cells are scanned (a frame, of size 9)");
        for (int pace = 1; pace <= 2; pace++) {
            ReadBarrierMachine x = Lines.sized(30, pace, 1, 7);
            x.bind(0, 0, Lines.method(x, -1, Lines.giveBack(0, 0)));
            x.start(Lines.method(x, -1, Lines.make(1, 1), Lines.constant(1, -1), Lines.make(0, 0),
                    Lines.add(0, 0, 1), Lines.ifZero(0, 6), Lines.jump(2), Lines.call(0, 2, 0),
                    Lines.giveBack(0, 0)), 15);
            x.run(61);
            room("at the flip", x, 10, 9, 9);
            x.run(1);
            due("depth()", x.depth(), 2);
            // The row has 16 cells when R1's object is in it.
            if (pace == 1) {
                room("pace 1", x, 26, 7, 9 + 7);
            } else {
                room("pace 2", x, 26, 0, 16 + 7);
            }
        }
    }

    private static void makingUpToTheRoom() {
        CHECKS.sentence("terms", "Then, if USED + s is above H: .. If it is done, there is a FLIP");
        for (int size = 1; size <= 7; size++) {
            for (int made = 14 - size; made <= 16 - size; made++) {
                ReadBarrierMachine x = Lines.sized(24, 1, 1, size);
                x.start(madeThen(x, Lines.make(0, 1)), made);
                runUpToTheLine(x, made);
                x.run(1);
                boolean isAbove = 9 + made + size > 24;
                String name = made + " cells, then " + size;
                due(name + ": flips()", x.flips(), isAbove ? 1 : 0);
                room(name, x, isAbove ? 9 + size : 9 + made + size, isAbove ? 9 : 0, isAbove ? 9 : 0);
            }
        }
    }

    private static void makingAFrameUpToTheRoom() {
        CHECKS.sentence("terms", "Then, if USED + s is above H (a frame, of size 9)");
        for (int made = 5; made <= 7; made++) {
            ReadBarrierMachine x = Lines.sized(24, 1, 1);
            x.bind(0, 0, Lines.method(x, -1, Lines.giveBack(0, 0)));
            x.start(madeThen(x, Lines.call(0, 0, 0)), made);
            runUpToTheLine(x, made);
            x.run(1);
            due("depth()", x.depth(), 2);
            due("flips() with " + made, x.flips(), made == 7 ? 1 : 0);
            // After the flip the caller and what is called on are moved beside the new frame.
            room("with " + made, x, made == 7 ? 19 : 18 + made, made == 7 ? 10 : 0, made == 7 ? 10 : 0);
        }
    }

    private static void rowDoneOrNot() {
        CHECKS.sentence("terms", "if the row is not done, the machine ends out of room. "
                + "If it is done, there is a FLIP");
        // R0 holds an object of 5 or 6 cells: the row has 14 or 15. Two makings scan 7 cells each.
        for (int cells = 5; cells <= 6; cells++) {
            ReadBarrierMachine x = Lines.sized(24, 1, cells, 7, 1);
            int[][] lines = {Lines.make(0, 0), Lines.make(2, 1)};
            for (int used = 16 + cells; used <= 24; used++) {
                lines = Lines.joined(lines, Lines.make(2, 2));
            }
            int before = lines.length;
            lines = Lines.joined(lines, Lines.make(1, 1), Lines.make(2, 1), Lines.giveBack(0, 0));
            x.start(Lines.method(x, -1, lines), 3);
            x.run(before);
            room("at the flip", x, 10, 9, 9);
            x.run(1);
            room("the first making", x, 17 + cells, 2 + cells, 7 + cells);
            due("flips()", x.flips(), 1);
            due("run(1)", x.run(1), 1);
            if (cells == 5) {
                room("done by the last cell", x, 16, 9, 7 + 9);
                due("flips()", x.flips(), 2);
                due("state()", x.state(), NOT_ENDED);
            } else {
                room("one cell is left", x, 23, 1, 7);
                due("flips()", x.flips(), 1);
                due("state()", x.state(), OUT_OF_ROOM);
                due("R2 is the one before", x.kindAt(2, -1), 2);
                due("result()", x.result(), 0);
            }
        }
    }

    private static void flipMakesNewOnesOld() {
        CHECKS.sentence("terms", "all new and moved objects become old .. the row is empty, "
                + "and the current frame is moved");
        ReadBarrierMachine x = Lines.sized(24, 8, 3, 1);
        x.start(Lines.method(x, -1, Lines.make(0, 0), Lines.make(2, 1), Lines.ifVoid(0, 0), Lines.jump(1)), 0);
        x.run(1);
        int flips = 0;
        for (int round = 0; round < 40; round++) {
            x.run(1);
            boolean isFlip = x.flips() > flips;
            flips = x.flips();
            if (isFlip) {
                room("flip " + flips, x, 10, 9, 9);
            }
            x.run(1);
            // First it was new, later moved: each time it is old after the flip.
            due("work() of reading R0 in round " + round, x.work(), isFlip ? 3 : 0);
            x.run(1);
        }
        // 12 makings fill the room, then 11 each time, with R0's object moved.
        due("flips()", flips, 3);
    }

    private static void flipMovesTheCurrentFrame() {
        CHECKS.sentence("terms", "and the current frame is moved (no other one)");
        ReadBarrierMachine x = inCallee(5, 1, Lines.giveBack(1, 0));
        due("used()", x.used(), 9 + 1);
        due("live()", x.live(), 9 + 9 + 5 + 1);
        due("flips()", x.flips(), 1);
        x.run(1);
        due("work() of going back to the caller, which is old", x.work(), 9);
        due("flips()", x.flips(), 1);
    }

    private static void flipForgetsTheOldOnes() {
        CHECKS.sentence("terms", "(those that were old until then are no more)");
        // Each time a chain of two is held and let go before it could be moved.
        ReadBarrierMachine x = Lines.sized(24, 8, 3, 7);
        x.start(Lines.method(x, -1, Lines.make(0, 0), Lines.make(1, 0), Lines.put(0, 1, 0), Lines.make(2, 1),
                Lines.make(2, 1), Lines.clear(0), Lines.clear(1), Lines.clear(2), Lines.make(2, 1), Lines.clear(2),
                Lines.jump(0)), 0);
        int[] used = {12, 15, 15, 22, 16, 16, 16, 16, 23, 23, 23, 12, 15, 15, 22, 16};
        int[] flips = {0, 0, 0, 0, 1, 1, 1, 1, 1, 1, 1, 2, 2, 2, 2, 3};
        for (int i = 0; i < used.length; i++) {
            x.run(1);
            due("used() after step " + (i + 1), x.used(), used[i]);
            due("flips() after step " + (i + 1), x.flips(), flips[i]);
        }
        for (int i = 0; i < 100; i++) {
            due("it goes on", x.run(200), 200);
        }
    }

    /** A frame of 9 cells and what is made, at most 9 more, go into every room: the least has 24. */
    private static void roomAfterAFlip() {
        CHECKS.sentence("terms", "Then, if USED + s is still above H, the machine ends out of room. "
                + "(the least room has 24 cells, and a frame has 9)");
        int[] asked = {Integer.MIN_VALUE, 0, 9, 17, 18, 23, 24};
        for (int cells : asked) {
            for (int size = 1; size <= 7; size++) {
                ReadBarrierMachine x = Lines.sized(cells, 1, 1, size);
                afterAFlip("an object of " + size + " in " + cells, x, Lines.make(0, 1), size);
                due("kindAt(0, -1)", x.kindAt(0, -1), 1);
            }
            ReadBarrierMachine x = Lines.sized(cells, 1, 1);
            x.bind(0, 0, Lines.method(x, -1, Lines.giveBack(0, 0)));
            // R0's object, of 1 cell, is read once the frame is made.
            afterAFlip("a frame in " + cells, x, Lines.call(0, 0, 0), 9 + 1);
            due("depth()", x.depth(), 2);
        }
    }

    private static void afterAFlip(String name, ReadBarrierMachine x, int[] line, int cellsBesideTheFrame) {
        x.start(madeThen(x, line), 15);
        runUpToTheLine(x, 15);
        due(name + ": full", x.used(), 24);
        due(name + ": no flip yet", x.flips(), 0);
        due(name + ": run(1)", x.run(1), 1);
        due(name + ": flips()", x.flips(), 1);
        due(name + ": state()", x.state(), NOT_ENDED);
        due(name + ": used()", x.used(), 9 + cellsBesideTheFrame);
    }

    private static void madeAsANewOne() {
        CHECKS.sentence("terms", "Then the object is there, as a new one.");
        ReadBarrierMachine x = Lines.sized(24, 1, 1, 7);
        x.start(Lines.method(x, -1, Lines.make(0, 1), Lines.make(0, 1), Lines.make(2, 1), Lines.ifVoid(2, 0),
                Lines.put(2, 2, 0), Lines.get(1, 2, 0), Lines.make(1, 0), Lines.giveBack(0, 0)), 0);
        x.run(2);
        room("no flip", x, 23, 0, 0);
        x.run(1);
        room("the one that flipped is in no row", x, 16, 9, 9);
        x.run(3);
        room("reading it moves nothing", x, 16, 9, 0);
        x.run(1);
        room("a cell of the frame is scanned", x, 17, 8, 1);
    }

    private static void workOfAStep() {
        CHECKS.sentence("terms", "WORK of a step: the cells that were scanned in it, "
                + "and the sizes of the objects that were moved in it.");
        // R0 holds an object of 2 cells, and that another one; R1 holds one of 3 cells.
        ReadBarrierMachine x = Lines.sized(24, 2, 2, 3, 1, 7);
        x.start(Lines.method(x, -1, Lines.make(0, 0), Lines.make(1, 0), Lines.put(0, 1, 0), Lines.make(1, 1),
                Lines.make(2, 3), Lines.make(2, 2), Lines.make(2, 2), Lines.get(2, 0, 0), Lines.make(2, 2),
                Lines.make(2, 2), Lines.show(0), Lines.giveBack(0, 0)), 0);
        x.run(6);
        room("makings without a row", x, 24, 0, 0);
        x.run(1);
        room("a flip: the frame is moved", x, 10, 9, 9);
        x.run(1);
        room("GET: two are moved", x, 14, 13, 4);
        x.run(1);
        room("a making: two cells are scanned", x, 15, 11, 2);
        x.run(1);
        room("a making: two cells are scanned, one object is moved", x, 19, 12, 5);
        x.run(1);
        room("SHOW", x, 19, 12, 0);
    }
}
