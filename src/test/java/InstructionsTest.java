/**
 * The section "Terms" without the getting back of room: instructions, steps and exceptions. One
 * test for each sentence that names an edge, on both sides of that edge.
 */
public final class InstructionsTest {
    private static final int LOW = Integer.MIN_VALUE;
    private static final int HIGH = Integer.MAX_VALUE;

    private static final Checks CHECKS = new Checks();

    private InstructionsTest() {
    }

    public static void main(String[] args) {
        addWraps();
        addRegisters();
        newIsEmpty();
        copyAndClear();
        getByNumber();
        putByNumber();
        loadAndStoreByNumber();
        jumpToPlaces();
        zeroOrNot();
        voidOrNot();
        callSelectors();
        callFrame();
        callFrameInUsedCells();
        returnWithoutLink();
        returnWithLink();
        throwAnyInt();
        showRegisters();
        notNamedIsNotLookedAt();
        stepHandler();
        stepHandlerInHandler();
        stepUncaught();
        stepToTheCaller();
        placeIsOneMore();
        placeIsOneMoreWithAnException();
        exceptionIsPending();
        frameHasNineCells();
        exceptionOnNone();
        exceptionOnNoneFirst();
        noneWhereItMayBe();
        exceptionWithoutPart();
        exceptionWithoutMethod();
        CHECKS.end();
    }

    private static void due(String call, int got, int want) {
        CHECKS.due(call, got, want);
    }

    private static ReadBarrierMachine started(int value, int[]... lines) {
        return Lines.started(120, 1, value, lines);
    }

    private static int sumOf(int a, int b) {
        ReadBarrierMachine x = started(a, Lines.constant(1, b), Lines.add(2, 0, 1), Lines.giveBack(0, 2));
        x.run(3);
        return x.result();
    }

    private static void addWraps() {
        CHECKS.sentence("ADD", "Ix becomes Iy + Iz (it wraps)");
        due("the greatest", sumOf(HIGH - 1, 1), HIGH);
        due("one beyond it", sumOf(HIGH, 1), LOW);
        due("the least", sumOf(LOW + 1, -1), LOW);
        due("one beyond it", sumOf(LOW, -1), HIGH);
        due("twice the greatest", sumOf(HIGH, HIGH), -2);
        due("twice the least", sumOf(LOW, LOW), 0);
        due("least and greatest", sumOf(LOW, HIGH), -1);
        due("small ones", sumOf(-5, 12), 7);
    }

    private static void addRegisters() {
        CHECKS.sentence("ADD", "Ix becomes Iy + Iz (z from 0 to 2)");
        int[] values = {100, 20, 3};
        for (int r = 0; r <= 2; r++) {
            for (int y = 0; y <= 2; y++) {
                for (int z = 0; z <= 2; z++) {
                    ReadBarrierMachine x = started(100, Lines.constant(1, 20), Lines.constant(2, 3),
                            Lines.add(r, y, z), Lines.giveBack(0, 0));
                    x.run(3);
                    for (int i = 0; i <= 2; i++) {
                        int due = i == r ? values[y] + values[z] : values[i];
                        due("I" + i + " after ADD " + r + " " + y + " " + z, x.number(i), due);
                    }
                }
            }
        }
    }

    private static void newIsEmpty() {
        CHECKS.sentence("NEW", "an object of kind z .. is made, its refs NONE, its ints 0; Rx becomes it");
        ReadBarrierMachine x = started(9, Lines.make(0, 1), Lines.make(1, 2), Lines.make(2, 0), Lines.giveBack(0, 0));
        for (int r = 0; r <= 2; r++) {
            due("before it in R" + r, x.kindAt(r, -1), -1);
            x.run(1);
            due("in R" + r, x.kindAt(r, -1), r == 0 ? 1 : r == 1 ? 2 : 0);
        }
        due("in R0 still", x.kindAt(0, -1), 1);
        due("in R1 still", x.kindAt(1, -1), 2);
        CHECKS.sentence("NEW", "its refs NONE, its ints 0 (in cells that were used before)");
        // Each object has all its parts filled and is dropped; the room of 24 goes round.
        x = Lines.started(24, 8, 77, Lines.make(0, 2), Lines.load(1, 0, 0), Lines.show(1), Lines.load(1, 0, 2),
                Lines.show(1), Lines.put(0, 0, 0), Lines.put(0, 0, 2), Lines.store(0, 0, 0), Lines.store(0, 0, 2),
                Lines.jump(0));
        for (int round = 0; round < 30; round++) {
            x.run(1);
            for (int f = 0; f <= 2; f++) {
                due("ref " + f + " of object " + round, x.kindAt(0, f), -1);
            }
            x.run(4);
            due("int 0 of object " + round, x.shown(1), 0);
            due("int 2 of object " + round, x.shown(0), 0);
            x.run(5);
            due("ref 2 when it was put", x.kindAt(0, 2), 2);
        }
        due("many flips", x.flips() > 9 ? 1 : 0, 1);
    }

    private static void copyAndClear() {
        CHECKS.sentence("COPY, CLEAR", "Rx becomes Ry; Rx becomes NONE");
        ReadBarrierMachine x = started(0, Lines.make(0, 1), Lines.copy(1, 0), Lines.copy(1, 1), Lines.copy(0, 2),
                Lines.copy(2, 1), Lines.clear(1), Lines.clear(1), Lines.giveBack(0, 0));
        int[][] due = {{1, -1, -1}, {1, 1, -1}, {1, 1, -1}, {-1, 1, -1}, {-1, 1, 1}, {-1, -1, 1}, {-1, -1, 1}};
        for (int i = 0; i < due.length; i++) {
            x.run(1);
            for (int r = 0; r <= 2; r++) {
                due("R" + r + " after step " + (i + 1), x.kindAt(r, -1), due[i][r]);
            }
        }
        due("no object was made", x.used(), 12);
    }

    private static void getByNumber() {
        CHECKS.sentence("GET", "Rx becomes ref z of the object in Ry");
        int[] due = {1, -1, 0};
        for (int z = 0; z <= 2; z++) {
            for (int r = 0; r <= 2; r++) {
                ReadBarrierMachine x = started(0, Lines.make(0, 2), Lines.make(1, 1), Lines.put(0, 1, 0),
                        Lines.make(1, 0), Lines.put(0, 1, 2), Lines.get(r, 0, z), Lines.giveBack(0, 0));
                x.run(6);
                due("R" + r + " after GET " + z, x.kindAt(r, -1), due[z]);
                due("no exception after GET " + z, x.run(1) + 10 * x.state(), 11);
            }
        }
    }

    private static void putByNumber() {
        CHECKS.sentence("PUT", "ref z of the object in Rx becomes Ry");
        for (int z = 0; z <= 2; z++) {
            ReadBarrierMachine x = started(0, Lines.make(0, 2), Lines.make(1, 1), Lines.put(0, 1, z),
                    Lines.put(0, 0, z), Lines.put(0, 2, z), Lines.giveBack(0, 0));
            int[] due = {1, 2, -1};
            x.run(2);
            for (int held : due) {
                x.run(1);
                for (int f = 0; f <= 2; f++) {
                    due("ref " + f + " after PUT " + z, x.kindAt(0, f), f == z ? held : -1);
                }
                due("the other object's ref", x.kindAt(1, 0), -1);
            }
        }
    }

    private static void loadAndStoreByNumber() {
        CHECKS.sentence("LOAD, STORE", "Ix becomes int z of the object in Ry; int z of the object in Rx becomes Iy");
        for (int z = 0; z <= 2; z++) {
            for (int value : new int[] {LOW, -1, 0, 1, HIGH}) {
                ReadBarrierMachine x = started(value, Lines.make(1, 2), Lines.store(1, 0, z), Lines.constant(1, 5),
                        Lines.store(1, 1, (z + 1) % 3), Lines.load(0, 1, (z + 1) % 3), Lines.load(2, 1, z),
                        Lines.load(1, 1, (z + 2) % 3), Lines.giveBack(0, 0));
                x.run(7);
                due("int " + z, x.number(2), value);
                due("the next one", x.number(0), 5);
                due("the one that was not stored", x.number(1), 0);
            }
        }
    }

    private static void jumpToPlaces() {
        CHECKS.sentence("JUMP", "PLACE becomes z (z from 0 to 11)");
        for (int place = 0; place <= 11; place++) {
            int[][] lines = new int[12][];
            java.util.Arrays.fill(lines, Lines.jump(place));
            ReadBarrierMachine x = started(0, lines);
            for (int i = 0; i < 3; i++) {
                x.run(1);
                due("JUMP " + place, x.number(3), place);
            }
        }
    }

    private static void zeroOrNot() {
        CHECKS.sentence("ZERO", "if Ix is 0, PLACE becomes z");
        for (int r = 0; r <= 2; r++) {
            for (int value : new int[] {LOW, -1, 0, 1, 256, HIGH}) {
                for (int place : new int[] {0, 1, 6, 11}) {
                    int[][] lines = new int[12][];
                    java.util.Arrays.fill(lines, Lines.ifZero(r, place));
                    lines[0] = Lines.constant((r + 1) % 3, value == 0 ? 1 : 0);
                    lines[1] = Lines.constant(r, value);
                    lines[11] = Lines.giveBack(0, 0);
                    ReadBarrierMachine x = started(value == 0 ? 1 : 0, lines);
                    x.run(3);
                    due("ZERO on " + value + " to " + place, x.number(3), value == 0 ? place : 3);
                }
            }
        }
    }

    private static void voidOrNot() {
        CHECKS.sentence("VOID", "if Rx is NONE, PLACE becomes z");
        for (int r = 0; r <= 2; r++) {
            for (int place : new int[] {0, 1, 6, 11}) {
                int[][] lines = new int[12][];
                java.util.Arrays.fill(lines, Lines.ifVoid(r, place));
                lines[1] = Lines.make(r, 0);
                lines[11] = Lines.giveBack(0, 0);
                ReadBarrierMachine x = started(0, lines);
                x.run(1);
                due("VOID on NONE to " + place, x.number(3), place);
                lines[0] = Lines.make(r, 0);
                lines[1] = Lines.clear((r + 1) % 3);
                x = started(0, lines);
                x.run(3);
                due("VOID on an object to " + place, x.number(3), 3);
            }
        }
    }

    private static void callSelectors() {
        CHECKS.sentence("CALL", "selector z (0 .. 3) on the object in Rx: a frame of the method that "
                + "the table of the object's kind has for z is made");
        for (int selector = 0; selector <= 3; selector++) {
            due("selector " + selector, answerOfSelector(selector), 40 + selector);
        }
    }

    private static int answerOfSelector(int selector) {
        ReadBarrierMachine x = Lines.machine(120, 1);
        for (int i = 0; i < 4; i++) {
            x.bind(1, i, Lines.method(x, -1, Lines.constant(1, 40 + i), Lines.giveBack(0, 1)));
        }
        x.start(Lines.method(x, -1, Lines.make(2, 1), Lines.call(2, 2, selector), Lines.giveBack(0, 2)), 0);
        x.run(200);
        return x.result();
    }

    private static void callFrame() {
        CHECKS.sentence("CALL", "with R0 the object, R1 what is in Ry, R2 NONE, LINK the current frame, "
                + "I0 the current frame's I0, I1, I2 and PLACE 0; it becomes the current one");
        ReadBarrierMachine x = Lines.machine(120, 1);
        int callee = Lines.method(x, -1, Lines.make(2, 0), Lines.giveBack(2, 1));
        int m = Lines.method(x, -1, Lines.make(0, 1), Lines.make(1, 2), Lines.make(2, 2), Lines.constant(1, 51),
                Lines.constant(2, 52), Lines.call(0, 1, 3), Lines.clear(1), Lines.call(0, 1, 3), Lines.giveBack(1, 2));
        x.bind(1, 3, callee);
        x.start(m, 50);
        x.run(6);
        frameIs(x, 2);
        due("used()", x.used(), 9 + 3 + 7 + 7 + 9);
        due("live()", x.live(), 9 + 3 + 7 + 7 + 9);
        x.run(4);
        CHECKS.sentence("CALL", "R1 what is in Ry (NONE)");
        frameIs(x, -1);
    }

    private static void frameIs(ReadBarrierMachine x, int argument) {
        due("depth()", x.depth(), 2);
        due("R0", x.kindAt(0, -1), 1);
        due("R1", x.kindAt(1, -1), argument);
        due("R2", x.kindAt(2, -1), -1);
        due("I0", x.number(0), 50);
        due("I1", x.number(1), 0);
        due("I2", x.number(2), 0);
        due("PLACE", x.number(3), 0);
    }

    private static void callFrameInUsedCells() {
        CHECKS.sentence("CALL", "R2 NONE .. I1, I2 and PLACE 0 (in cells that were used before)");
        ReadBarrierMachine x = Lines.machine(30, 8);
        int callee = Lines.method(x, -1, Lines.make(2, 0), Lines.constant(0, 11), Lines.constant(1, 12),
                Lines.constant(2, 13), Lines.clear(0), Lines.clear(1), Lines.giveBack(2, 0));
        int m = Lines.method(x, -1, Lines.make(0, 1), Lines.call(0, 1, 3), Lines.jump(1));
        x.bind(1, 3, callee);
        x.start(m, 50);
        x.run(1);
        for (int round = 0; round < 30; round++) {
            x.run(1);
            frameIs(x, -1);
            x.run(8);
            due("R2 of the caller", x.kindAt(2, -1), 0);
            due("I2 of the caller", x.number(2), 11);
            due("depth()", x.depth(), 1);
        }
        due("many flips", x.flips() > 9 ? 1 : 0, 1);
    }

    private static void returnWithoutLink() {
        CHECKS.sentence("RETURN", "if LINK is NONE, the machine ends with RESULT Iy");
        for (int y = 0; y <= 2; y++) {
            ReadBarrierMachine x = started(60, Lines.make(0, 1), Lines.constant(1, 61), Lines.constant(2, 62),
                    Lines.giveBack(0, y), Lines.show(0), Lines.giveBack(0, 0));
            due("run(200)", x.run(200), 4);
            due("state()", x.state(), 1);
            due("result() with y " + y, x.result(), 60 + y);
            due("R2 stays", x.kindAt(2, -1), -1);
            due("I2 stays", x.number(2), 62);
            due("PLACE", x.number(3), 4);
        }
    }

    private static void returnWithLink() {
        CHECKS.sentence("RETURN", "Else the frame in LINK becomes the current one; its R2 becomes what Rx was, "
                + "its I2 what Iy was");
        int[] kinds = {1, -1, 0};
        for (int r = 0; r <= 2; r++) {
            for (int y = 0; y <= 2; y++) {
                ReadBarrierMachine x = Lines.machine(120, 1);
                x.bind(1, 0, Lines.method(x, -1, Lines.make(2, 0), Lines.constant(1, 61), Lines.constant(2, 62),
                        Lines.giveBack(r, y)));
                x.start(Lines.method(x, -1, Lines.make(0, 1), Lines.make(2, 2), Lines.constant(1, 51),
                        Lines.constant(2, 52), Lines.call(0, 1, 0), Lines.giveBack(0, 0)), 60);
                x.run(9);
                due("not ended", x.state(), 0);
                due("depth()", x.depth(), 1);
                due("R0 stays", x.kindAt(0, -1), 1);
                due("R1 stays", x.kindAt(1, -1), -1);
                due("R2 with x " + r, x.kindAt(2, -1), kinds[r]);
                due("I0 stays", x.number(0), 60);
                due("I1 stays", x.number(1), 51);
                due("I2 with y " + y, x.number(2), 60 + y);
                due("PLACE is behind the call", x.number(3), 5);
                due("result()", x.result(), 0);
            }
        }
    }

    private static void throwAnyInt() {
        CHECKS.sentence("THROW", "exception Ix");
        for (int value : new int[] {LOW, -1, 0, 1, 2, 3, HIGH}) {
            for (int r = 0; r <= 2; r++) {
                ReadBarrierMachine x = started(7, Lines.constant(0, 8), Lines.constant(r, value), Lines.raise(r));
                due("steps of exception " + value, x.run(200), 4);
                due("state() of exception " + value, x.state(), 2);
                due("result() of exception " + value, x.result(), value);
            }
        }
    }

    private static void showRegisters() {
        CHECKS.sentence("SHOW", "Ix is shown");
        ReadBarrierMachine x = started(LOW, Lines.constant(1, 0), Lines.constant(2, HIGH), Lines.show(0), Lines.show(1),
                Lines.show(2), Lines.constant(0, 4), Lines.giveBack(0, 0));
        x.run(6);
        due("I0 as it was", x.shown(2), LOW);
        due("I1", x.shown(1), 0);
        due("I2", x.shown(0), HIGH);
        due("shown(-1)", x.shown(-1), 3);
    }

    private static void notNamedIsNotLookedAt() {
        CHECKS.sentence("terms", "what an instruction does not name is not looked at");
        int[] spare = {LOW, -1, 3, 12, HIGH};
        for (int s : spare) {
            ReadBarrierMachine x = Lines.machine(120, 1);
            x.method(-1);
            due("CONST", x.code(0, 1, s, 5), 0);
            due("NEW", x.code(2, 0, s, 1), 0);
            due("COPY", x.code(3, 1, 0, s), 0);
            due("CLEAR", x.code(4, 0, s, s), 0);
            due("ZERO", x.code(10, 0, s, 6), 0);
            due("SHOW", x.code(15, 0, s, s), 0);
            due("VOID", x.code(11, 0, s, 8), 0);
            due("SHOW", x.code(15, 0, s, s), 0);
            due("JUMP", x.code(9, s, s, 10), 0);
            due("THROW", x.code(14, 0, s, s), 0);
            due("RETURN", x.code(13, 0, 1, s), 0);
            due("seal()", x.seal() ? 1 : 0, 1);
            x.start(0, 0);
            due("run(200)", x.run(200), 8);
            due("state()", x.state(), 1);
            due("result()", x.result(), 5);
            due("kindAt(1, -1)", x.kindAt(1, -1), 1);
            due("shown(-1)", x.shown(-1), 0);
        }
    }

    private static void stepHandler() {
        CHECKS.sentence("a step", "if the current frame's method has a handler, PLACE becomes that, "
                + "I2 becomes the exception, and none is pending any more");
        for (int handler = 0; handler <= 11; handler++) {
            int[][] lines = new int[12][];
            java.util.Arrays.fill(lines, Lines.show(2));
            lines[11] = Lines.raise(0);
            ReadBarrierMachine x = Lines.machine(50, 1);
            x.start(Lines.method(x, handler, lines), 5);
            x.run(12);
            due("pending", x.number(3), 12);
            due("I2 while it is pending", x.number(2), 0);
            x.run(1);
            due("handler " + handler, x.number(3), handler);
            due("I2", x.number(2), 5);
            due("shown so far", x.shown(-1), 11);
            x.run(1);
            due("the line at the handler is done", x.shown(-1), handler == 11 ? 11 : 12);
            due("PLACE", x.number(3), handler + 1);
            due("state()", x.state(), 0);
        }
    }

    private static void stepHandlerInHandler() {
        CHECKS.sentence("a step", "none is pending any more (an exception in the handler is another one)");
        ReadBarrierMachine x = Lines.machine(50, 1);
        x.start(Lines.method(x, 2, Lines.constant(1, 1), Lines.raise(0), Lines.add(0, 0, 1), Lines.raise(0)), 70);
        int[] due = {0, 0, 0, 70, 70, 70, 71, 71, 71, 72};
        for (int i = 0; i < due.length; i++) {
            due("I2 after " + i + " steps", x.number(2), due[i]);
            x.run(1);
        }
        due("it goes on", x.run(200), 200);
    }

    private static void stepUncaught() {
        CHECKS.sentence("a step", "if LINK is NONE, the machine ends UNCAUGHT with the exception as RESULT");
        ReadBarrierMachine x = started(9, Lines.raise(0));
        due("THROW", x.run(1), 1);
        due("state() while pending", x.state(), 0);
        due("the step that ends it", x.run(5), 1);
        due("state()", x.state(), 2);
        due("result()", x.result(), 9);
        due("depth()", x.depth(), 1);
        due("I2", x.number(2), 0);
        due("PLACE", x.number(3), 1);
    }

    private static void stepToTheCaller() {
        CHECKS.sentence("a step", "else the frame in LINK becomes the current one");
        ReadBarrierMachine x = Lines.machine(120, 1);
        int inner = Lines.method(x, -1, Lines.constant(0, 77), Lines.raise(0));
        int middle = Lines.method(x, -1, Lines.call(0, 0, 0), Lines.giveBack(0, 0));
        int outer = Lines.method(x, 3, Lines.make(0, 0), Lines.call(0, 0, 1), Lines.giveBack(0, 0), Lines.show(2),
                Lines.giveBack(0, 2));
        int bare = Lines.method(x, -1, Lines.make(0, 0), Lines.call(0, 0, 1), Lines.giveBack(0, 0));
        x.bind(0, 0, inner);
        x.bind(0, 1, middle);
        x.start(outer, 4);
        int[] depths = {1, 1, 2, 3, 3, 3, 2, 1, 1, 1, 1};
        int[] places = {0, 1, 0, 0, 1, 2, 1, 2, 3, 4, 5};
        for (int i = 0; i < depths.length; i++) {
            due("depth() after " + i, x.depth(), depths[i]);
            due("PLACE after " + i, x.number(3), places[i]);
            x.run(1);
        }
        due("ended by RETURN", x.state(), 1);
        due("result()", x.result(), 77);
        due("the frames left are held by none", x.live(), 10);
        x.start(bare, 4);
        due("uncaught after one step a frame", x.run(200), 8);
        due("state()", x.state(), 2);
        due("result()", x.result(), 77);
        due("depth()", x.depth(), 1);
        due("PLACE", x.number(3), 2);
        due("I2", x.number(2), 0);
    }

    private static void placeIsOneMore() {
        CHECKS.sentence("a step", "the instruction at PLACE is done, after PLACE became one more");
        ReadBarrierMachine x = started(0, Lines.constant(0, 1), Lines.show(0), Lines.show(0), Lines.show(0),
                Lines.show(0), Lines.show(0), Lines.show(0), Lines.show(0), Lines.show(0), Lines.show(0),
                Lines.show(0), Lines.giveBack(0, 0));
        for (int place = 0; place <= 12; place++) {
            due("PLACE", x.number(3), place);
            x.run(1);
        }
        due("state()", x.state(), 1);
        due("PLACE at the end", x.number(3), 12);
    }

    private static void placeIsOneMoreWithAnException() {
        CHECKS.sentence("terms", "PLACE is one more all the same");
        int[][] wrong = {
            Lines.get(0, 1, 0), Lines.put(1, 0, 0), Lines.load(0, 1, 0), Lines.store(1, 0, 0), Lines.call(1, 0, 0),
            Lines.raise(0)
        };
        for (int[] line : wrong) {
            for (int place = 0; place <= 10; place++) {
                int[][] lines = new int[12][];
                java.util.Arrays.fill(lines, Lines.show(0));
                lines[place] = line;
                lines[11] = Lines.giveBack(0, 0);
                ReadBarrierMachine x = started(1, lines);
                due("uncaught", x.run(200), place + 2);
                due("PLACE of instruction " + line[0] + " at " + place, x.number(3), place + 1);
            }
        }
    }

    private static void exceptionIsPending() {
        CHECKS.sentence("terms", "An exception that arises becomes the one pending");
        // The callee's handler fails itself: its own exception is the one that it gets next.
        ReadBarrierMachine x = Lines.machine(120, 1);
        x.bind(0, 0, Lines.method(x, 1, Lines.raise(0), Lines.load(0, 0, 0), Lines.giveBack(0, 0)));
        x.start(Lines.method(x, 3, Lines.make(0, 0), Lines.call(0, 0, 0), Lines.giveBack(0, 0),
                Lines.giveBack(0, 2)), 9);
        x.run(4);
        due("I2 of the callee", x.number(2), 9);
        x.run(2);
        due("I2 with the handler's own exception", x.number(2), 2);
        due("PLACE", x.number(3), 1);
        due("depth()", x.depth(), 2);
    }

    private static void frameHasNineCells() {
        CHECKS.sentence("terms", "its size is 9");
        ReadBarrierMachine x = Lines.machine(120, 1);
        x.bind(0, 0, Lines.method(x, -1, Lines.call(0, 0, 0), Lines.giveBack(0, 0)));
        x.start(Lines.method(x, -1, Lines.make(0, 0), Lines.call(0, 0, 0), Lines.giveBack(0, 0)), 0);
        due("used()", x.used(), 9);
        x.run(1);
        for (int frames = 1; frames <= 13; frames++) {
            due("depth()", x.depth(), frames);
            due("used() with " + frames, x.used(), 9 * frames + 1);
            due("live() with " + frames, x.live(), 9 * frames + 1);
            due("flips() with " + frames, x.flips(), 0);
            x.run(1);
        }
        due("flips() with one more", x.flips(), 1);
    }

    /** The line stands where R0 and R1 hold objects of kind 1 and R2 holds NONE. */
    private static void exceptionOf(int[] line, int due) {
        ReadBarrierMachine x = Lines.machine(120, 1);
        String name = "instruction " + line[0] + " with z " + line[3];
        x.start(Lines.method(x, 5, Lines.make(0, 1), Lines.make(1, 1), Lines.constant(1, 9), line,
                Lines.jump(0), Lines.show(2), Lines.giveBack(0, 2)), 8);
        x.run(4);
        due(name + ": PLACE is one more all the same", x.number(3), 4);
        due(name + ": I0", x.number(0), 8);
        due(name + ": I1", x.number(1), 9);
        due(name + ": I2, not yet handled", x.number(2), 0);
        due(name + ": R0", x.kindAt(0, -1), 1);
        due(name + ": R1", x.kindAt(1, -1), 1);
        due(name + ": R2", x.kindAt(2, -1), -1);
        due(name + ": R0's ref", x.kindAt(0, 0), -1);
        due(name + ": depth()", x.depth(), 1);
        due(name + ": used()", x.used(), 15);
        x.run(1);
        due(name + ": handler", x.number(3), 5);
        due(name + ": I2", x.number(2), due);
        due(name + ": the rest", x.run(200), 2);
        due(name + ": result()", x.result(), due);
    }

    private static void exceptionOnNone() {
        CHECKS.sentence("terms", "Where the object that is named is NONE (Ry in 5, 7; Rx in 6, 8, 12): exception 1");
        exceptionOf(Lines.get(0, 2, 0), 1);
        exceptionOf(Lines.put(2, 0, 0), 1);
        exceptionOf(Lines.load(0, 2, 0), 1);
        exceptionOf(Lines.store(2, 0, 0), 1);
        exceptionOf(Lines.call(2, 0, 0), 1);
    }

    private static void exceptionOnNoneFirst() {
        CHECKS.sentence("terms", "exception 1 in place of all else");
        for (int z = 1; z <= 2; z++) {
            exceptionOf(Lines.get(0, 2, z), 1);
            exceptionOf(Lines.put(2, 2, z), 1);
            exceptionOf(Lines.load(0, 2, z), 1);
            exceptionOf(Lines.store(2, 0, z), 1);
        }
        for (int selector = 0; selector <= 3; selector++) {
            exceptionOf(Lines.call(2, 2, selector), 1);
        }
    }

    private static void noneWhereItMayBe() {
        CHECKS.sentence("terms", "Where the object that is named is NONE (no exception at the others)");
        ReadBarrierMachine x = Lines.machine(120, 1);
        x.bind(1, 0, Lines.method(x, -1, Lines.giveBack(2, 1)));
        x.start(Lines.method(x, -1, Lines.make(0, 1), Lines.copy(1, 2), Lines.clear(2), Lines.put(0, 2, 0),
                Lines.get(1, 0, 0), Lines.ifVoid(1, 6), Lines.call(0, 1, 0), Lines.giveBack(2, 0)), 3);
        due("run(200)", x.run(200), 9);
        due("state()", x.state(), 1);
        due("result()", x.result(), 3);
    }

    private static void exceptionWithoutPart() {
        CHECKS.sentence("terms", "Where its kind has no ref or int z (5 to 8): exception 2");
        for (int z = 1; z <= 2; z++) {
            exceptionOf(Lines.get(2, 0, z), 2);
            exceptionOf(Lines.put(0, 1, z), 2);
            exceptionOf(Lines.load(1, 0, z), 2);
            exceptionOf(Lines.store(0, 1, z), 2);
        }
        for (int refs = 0; refs <= 3; refs++) {
            int ints = 3 - refs;
            for (int z = 0; z <= 2; z++) {
                String which = " " + z + " of " + refs + " refs and " + ints + " ints";
                due("GET" + which, exceptionWith(refs, ints, Lines.get(1, 0, z)), z < refs ? 0 : 2);
                due("PUT" + which, exceptionWith(refs, ints, Lines.put(0, 0, z)), z < refs ? 0 : 2);
                due("LOAD" + which, exceptionWith(refs, ints, Lines.load(1, 0, z)), z < ints ? 0 : 2);
                due("STORE" + which, exceptionWith(refs, ints, Lines.store(0, 0, z)), z < ints ? 0 : 2);
            }
        }
    }

    /** The exception of a line on an object of such a kind in R0; 0 if there is none. */
    private static int exceptionWith(int refs, int ints, int[] line) {
        ReadBarrierMachine x = new ReadBarrierMachine(50, 1);
        x.kind(-1, refs, ints);
        x.start(Lines.method(x, -1, Lines.make(0, 0), line, Lines.giveBack(0, 2)), 5);
        x.run(200);
        return x.result();
    }

    private static void exceptionWithoutMethod() {
        CHECKS.sentence("terms", "Where the table has no method (12): exception 3");
        for (int selector = 0; selector <= 3; selector++) {
            exceptionOf(Lines.call(0, 0, selector), 3);
            exceptionOf(Lines.call(0, 2, selector), 3);
        }
        for (int bound = 0; bound <= 3; bound++) {
            for (int selector = 0; selector <= 3; selector++) {
                ReadBarrierMachine x = Lines.machine(60, 1);
                x.bind(1, bound, Lines.method(x, -1, Lines.giveBack(0, 0)));
                x.start(Lines.method(x, -1, Lines.make(0, 1), Lines.call(0, 0, selector), Lines.giveBack(0, 1)), 8);
                x.run(200);
                due("CALL " + selector + " with " + bound + " bound", x.result(), bound == selector ? 0 : 3);
            }
        }
    }
}
