/** Each promise of the document in turn: ordinary inputs, the edges it names, wrong inputs. */
public final class PromisesTest {
    private static final int LOW = Integer.MIN_VALUE;
    private static final int HIGH = Integer.MAX_VALUE;

    private static final Checks CHECKS = new Checks();

    private PromisesTest() {
    }

    public static void main(String[] args) {
        newObject();
        newObjectRoom();
        newObjectPace();
        kindNumbers();
        kindRefusals();
        kindParts();
        kindTables();
        bindRefusals();
        bindWhileRunning();
        methodNumbers();
        methodRefusals();
        codeOrderOfRefusals();
        codeOperands();
        codeKindsOfNew();
        sealRefusals();
        sealPlaces();
        dropGivesUp();
        startAnew();
        startRefusals();
        runCounts();
        stateEnds();
        resultValues();
        shownValues();
        workOfRuns();
        usedCells();
        greyCells();
        flipCounts();
        depthOfCalls();
        liveCells();
        kindAtAnswers();
        numberAnswers();
        instructionsOnNumbers();
        instructionsOnObjects();
        instructionsThatJump();
        instructionsThatCall();
        exceptionsByInstruction();
        exceptionsThroughFrames();
        CHECKS.end();
    }

    private static void due(String call, int got, int want) {
        CHECKS.due(call, got, want);
    }

    private static void due(String call, boolean got, boolean want) {
        CHECKS.due(call, got, want);
    }

    /** A started machine whose only method has these lines. */
    private static ReadBarrierMachine started(int value, int[]... lines) {
        ReadBarrierMachine x = Lines.machine(120, 1);
        x.start(Lines.method(x, -1, lines), value);
        return x;
    }

    private static void newObject() {
        CHECKS.about("promise 1");
        ReadBarrierMachine x = new ReadBarrierMachine(50, 2);
        due("state()", x.state(), 4);
        due("result()", x.result(), 0);
        due("shown(-1)", x.shown(-1), 0);
        due("shown(0)", x.shown(0), 0);
        due("work()", x.work(), 0);
        due("used()", x.used(), 0);
        due("grey()", x.grey(), 0);
        due("flips()", x.flips(), 0);
        due("depth()", x.depth(), 0);
        due("live()", x.live(), 0);
        due("kindAt(0, -1)", x.kindAt(0, -1), -1);
        due("kindAt(0, 0)", x.kindAt(0, 0), -1);
        for (int i = -1; i <= 4; i++) {
            due("number", x.number(i), 0);
        }
        due("run(10)", x.run(10), 0);
        due("start(0, 0)", x.start(0, 0), false);
        due("bind(0, 0, 0)", x.bind(0, 0, 0), false);
        due("code", x.code(0, 0, 0, 0), 1);
        due("seal()", x.seal(), false);
        due("drop()", x.drop(), false);
        due("kind", x.kind(0, 0, 0), -1);
        due("kind", x.kind(-1, 0, 0), 0);
        due("method", x.method(-1), 0);
    }

    private static void newObjectRoom() {
        CHECKS.about("promise 1, cells");
        int[] given = {LOW, -1, 0, 23, 24, 25, 77, 119, 120, 121, HIGH};
        int[] due = {24, 24, 24, 24, 24, 25, 77, 119, 120, 120, 120};
        for (int i = 0; i < given.length; i++) {
            ReadBarrierMachine x = Lines.machine(given[i], 1);
            x.start(Lines.method(x, -1, Lines.make(0, 0), Lines.jump(0)), 0);
            for (int made = 9; made < due[i]; made++) {
                x.run(2);
            }
            due("used() of " + given[i], x.used(), due[i]);
            due("flips() of " + given[i], x.flips(), 0);
            x.run(2);
            due("used() after the flip of " + given[i], x.used(), 10);
            due("flips() after the flip of " + given[i], x.flips(), 1);
        }
    }

    private static void newObjectPace() {
        CHECKS.about("promise 1, pace");
        int[] given = {LOW, 0, 1, 2, 5, 7, 8, 9, HIGH};
        int[] due = {1, 1, 1, 2, 5, 7, 8, 8, 8};
        for (int i = 0; i < given.length; i++) {
            ReadBarrierMachine x = Lines.machine(24, given[i]);
            x.start(Lines.method(x, -1, Lines.make(0, 0), Lines.jump(0)), 0);
            x.run(2 * 16);
            due("grey() at the flip of " + given[i], x.grey(), 9);
            x.run(1);
            due("grey() of " + given[i], x.grey(), 9 - due[i]);
            due("work() of " + given[i], x.work(), due[i]);
        }
    }

    private static void kindNumbers() {
        CHECKS.about("promise 2");
        ReadBarrierMachine x = new ReadBarrierMachine(50, 1);
        due("kind(-1, 0, 0)", x.kind(-1, 0, 0), 0);
        due("kind(0, 3, 3)", x.kind(0, 3, 3), 1);
        due("kind(1, 3, 3)", x.kind(1, 3, 3), 2);
        due("kind(-1, 1, 2)", x.kind(-1, 1, 2), 3);
        due("a fifth", x.kind(-1, 1, 2), -1);
        due("a sixth", x.kind(0, 1, 2), -1);
    }

    private static void kindRefusals() {
        CHECKS.about("promise 2, refusals");
        ReadBarrierMachine x = new ReadBarrierMachine(50, 1);
        int[][] wrong = {
            {-2, 1, 1}, {LOW, 1, 1}, {0, 1, 1}, {1, 1, 1}, {HIGH, 1, 1},
            {-1, -1, 0}, {-1, 4, 0}, {-1, 0, -1}, {-1, 0, 4}, {-1, LOW, HIGH}
        };
        for (int[] w : wrong) {
            due("kind(" + w[0] + ", " + w[1] + ", " + w[2] + ")", x.kind(w[0], w[1], w[2]), -1);
        }
        due("kind(-1, 2, 1)", x.kind(-1, 2, 1), 0);
        due("fewer refs", x.kind(0, 1, 1), -1);
        due("fewer ints", x.kind(0, 2, 0), -1);
        due("more ints, fewer refs", x.kind(0, 1, 3), -1);
        due("more refs, fewer ints", x.kind(0, 3, 0), -1);
        due("too many refs", x.kind(0, 4, 1), -1);
        due("too many ints", x.kind(0, 2, 4), -1);
        due("not loaded yet", x.kind(1, 3, 3), -1);
        due("as many", x.kind(0, 2, 1), 1);
        due("grandchild with fewer than its parent", x.kind(1, 1, 1), -1);
        due("number after refusals", x.kind(1, 3, 3), 2);
    }

    private static void kindParts() {
        CHECKS.about("promise 2, refs and ints");
        for (int refs = 0; refs <= 3; refs++) {
            for (int ints = 0; ints <= 3; ints++) {
                for (int z = 0; z <= 2; z++) {
                    String which = z + " of " + refs + " and " + ints;
                    due("ref " + which, endOf(refs, ints, Lines.get(1, 0, z)), z < refs ? 1 : 2);
                    due("int " + which, endOf(refs, ints, Lines.load(1, 0, z)), z < ints ? 1 : 2);
                }
            }
        }
    }

    /** The state in which a machine ends with one line on an object of such a kind in R0. */
    private static int endOf(int refs, int ints, int[] line) {
        ReadBarrierMachine x = new ReadBarrierMachine(50, 1);
        x.kind(-1, refs, ints);
        x.start(Lines.method(x, -1, Lines.make(0, 0), line, Lines.giveBack(0, 0)), 0);
        x.run(1);
        due("size of " + refs + " and " + ints, x.used(), 9 + 1 + refs + ints);
        x.run(200);
        return x.state();
    }

    /** What is shown in a run of the method, or the exception that ends it, below 0. */
    private static int answerOf(ReadBarrierMachine x, int m) {
        x.start(m, 0);
        x.run(20);
        return x.state() == 2 ? -x.result() : x.shown(0);
    }

    private static int showing(ReadBarrierMachine x, int value) {
        return Lines.method(x, -1, Lines.constant(1, value), Lines.show(1), Lines.giveBack(0, 0));
    }

    private static int calling(ReadBarrierMachine x, int kind, int selector) {
        return Lines.method(x, -1, Lines.make(0, kind), Lines.call(0, 0, selector), Lines.giveBack(0, 0));
    }

    private static void kindTables() {
        CHECKS.about("promise 2, tables");
        ReadBarrierMachine x = new ReadBarrierMachine(120, 1);
        x.kind(-1, 0, 0);
        int first = showing(x, 101);
        int second = showing(x, 102);
        due("bind", x.bind(0, 3, first), true);
        due("child", x.kind(0, 1, 0), 1);
        due("bind the parent anew", x.bind(0, 3, second), true);
        due("second child", x.kind(0, 1, 0), 2);
        due("no parent", x.kind(-1, 0, 0), 3);
        int[] callers = {calling(x, 0, 3), calling(x, 1, 3), calling(x, 2, 3), calling(x, 3, 3)};
        int[] due = {102, 101, 102, -3};
        for (int kind = 0; kind < 4; kind++) {
            due("selector 3 on kind " + kind, answerOf(x, callers[kind]), due[kind]);
        }
        due("bind a child", x.bind(1, 3, second), true);
        due("bind kind 3", x.bind(3, 3, first), true);
        int[] dueNow = {102, 102, 102, 101};
        for (int kind = 0; kind < 4; kind++) {
            due("then on kind " + kind, answerOf(x, callers[kind]), dueNow[kind]);
        }
    }

    private static void bindRefusals() {
        CHECKS.about("promise 3");
        ReadBarrierMachine x = Lines.machine(120, 1);
        due("no method yet", x.bind(0, 0, 0), false);
        int first = showing(x, 101);
        due("bind(0, 0, 0)", x.bind(0, 0, first), true);
        due("open", x.method(-1), 1);
        x.code(13, 0, 0, 0);
        due("an open method", x.bind(0, 0, 1), false);
        due("seal()", x.seal(), true);
        int caller = calling(x, 0, 0);
        int[][] wrong = {
            {-1, 0, 1}, {3, 0, 1}, {LOW, 0, 1}, {HIGH, 0, 1}, {0, -1, 1}, {0, 4, 1}, {0, LOW, 1},
            {0, HIGH, 1}, {0, 0, -1}, {0, 0, 3}, {0, 0, 6}, {0, 0, LOW}, {0, 0, HIGH}, {3, 4, 6}
        };
        for (int[] w : wrong) {
            due("bind(" + w[0] + ", " + w[1] + ", " + w[2] + ")", x.bind(w[0], w[1], w[2]), false);
        }
        due("refused: as before", answerOf(x, caller), 101);
        for (int kind = 0; kind <= 2; kind++) {
            for (int selector = 0; selector <= 3; selector++) {
                due("bind(" + kind + ", " + selector + ")", x.bind(kind, selector, 1), true);
            }
        }
        x.start(caller, 0);
        due("run(200)", x.run(200), 4);
        due("the new one shows nothing", x.shown(-1), 0);
    }

    private static void bindWhileRunning() {
        CHECKS.about("promise 3, while it runs");
        ReadBarrierMachine x = Lines.machine(120, 1);
        int first = showing(x, 101);
        int second = showing(x, 102);
        int caller = Lines.method(x, -1, Lines.make(0, 1), Lines.call(0, 0, 2), Lines.call(0, 0, 2),
                Lines.call(0, 0, 1), Lines.giveBack(0, 0));
        x.bind(1, 2, first);
        x.start(caller, 0);
        x.run(2);
        due("in a call", x.bind(1, 2, second), true);
        x.run(3);
        due("the frame keeps its method", x.shown(0), 101);
        x.run(3);
        due("the next call has the new one", x.shown(0), 102);
        x.run(3);
        due("another selector has none", x.state(), 2);
        due("exception 3", x.result(), 3);
        x.start(caller, 0);
        x.run(8);
        x.bind(1, 1, first);
        x.run(200);
        due("bound before the call", x.state(), 1);
        due("shown", x.shown(0), 101);
    }

    private static void methodNumbers() {
        CHECKS.about("promise 4");
        ReadBarrierMachine x = new ReadBarrierMachine(50, 1);
        for (int m = 0; m < 6; m++) {
            due("method", x.method(m == 0 ? -1 : 0), m);
            due("while one is open", x.method(-1), -1);
            x.code(13, 0, 0, 0);
            due("seal()", x.seal(), true);
        }
        due("a seventh", x.method(-1), -1);
        due("none is open", x.code(13, 0, 0, 0), 1);
        due("drop()", x.drop(), false);
        due("the sixth starts", x.start(5, 0), true);
    }

    private static void methodRefusals() {
        CHECKS.about("promise 4, handlers");
        ReadBarrierMachine x = new ReadBarrierMachine(50, 1);
        for (int wrong : new int[] {LOW, -2, 12, 13, HIGH}) {
            due("method(" + wrong + ")", x.method(wrong), -1);
            due("none is open", x.drop(), false);
        }
        for (int handler = -1; handler <= 11; handler++) {
            due("method(" + handler + ")", x.method(handler), 0);
            due("drop()", x.drop(), true);
        }
        int m = Lines.method(x, 2, Lines.constant(0, 9), Lines.raise(0), Lines.giveBack(0, 2));
        x.start(m, 0);
        due("run(200)", x.run(200), 4);
        due("the handler had the exception", x.result(), 9);
    }

    private static void codeOrderOfRefusals() {
        CHECKS.about("promise 5, order");
        ReadBarrierMachine x = new ReadBarrierMachine(50, 1);
        due("none open", x.code(99, 9, 9, 9), 1);
        x.method(-1);
        for (int i = 0; i < 12; i++) {
            due("no instruction", x.code(16, 9, 9, 9), 3);
            due("no instruction", x.code(-1, 0, 0, 0), 3);
            due("no instruction", x.code(LOW, 0, 0, 0), 3);
            due("no instruction", x.code(HIGH, 0, 0, 0), 3);
            due("not as said", x.code(14, 3, 0, 0), 4);
            due("line " + i, x.code(14, 0, 0, 0), 0);
        }
        due("a thirteenth", x.code(14, 0, 0, 0), 2);
        due("a thirteenth, no instruction", x.code(16, 0, 0, 0), 2);
        due("a thirteenth, not as said", x.code(14, 3, 0, 0), 2);
        due("seal()", x.seal(), true);
        due("none open any more", x.code(14, 0, 0, 0), 1);
    }

    private static void codeOperands() {
        CHECKS.about("promise 5, operands");
        int[] zValues = {-1, 3, 3, -1, -1, 3, 3, 3, 3, 12, 12, 12, 4, -1, -1, -1};
        int[] tried = {LOW, -2, -1, 0, 1, 2, 3, 4, 11, 12, 13, HIGH};
        ReadBarrierMachine x = Lines.machine(50, 1);
        for (int op = 0; op <= 15; op++) {
            boolean hasX = op != 9;
            boolean hasY = op == 1 || op == 3 || (op >= 5 && op <= 8) || op == 12 || op == 13;
            for (int t : tried) {
                boolean isRegister = t >= 0 && t <= 2;
                boolean isZ = zValues[op] == -1 || (t >= 0 && t < zValues[op]);
                due("x " + t + " of " + op, codeAlone(x, op, t, 0, 0), !hasX || isRegister ? 0 : 4);
                due("y " + t + " of " + op, codeAlone(x, op, 0, t, 0), !hasY || isRegister ? 0 : 4);
                due("z " + t + " of " + op, codeAlone(x, op, 0, 0, t), isZ ? 0 : 4);
            }
        }
    }

    private static int codeAlone(ReadBarrierMachine machine, int op, int x, int y, int z) {
        machine.method(-1);
        int answer = machine.code(op, x, y, z);
        machine.drop();
        return answer;
    }

    private static void codeKindsOfNew() {
        CHECKS.about("promise 5, the kind of NEW");
        ReadBarrierMachine x = new ReadBarrierMachine(50, 1);
        x.method(-1);
        for (int loaded = 0; loaded < 4; loaded++) {
            for (int z = -1; z <= 4; z++) {
                boolean isLoaded = z >= 0 && z < loaded;
                int answer = x.code(2, 0, 0, z);
                due("NEW of " + z + " with " + loaded + " loaded", answer, isLoaded ? 0 : 4);
            }
            x.kind(-1, 0, 0);
        }
        due("the fourth", x.code(2, 0, 0, 3), 0);
        due("no fifth", x.code(2, 0, 0, 4), 4);
    }

    private static void sealRefusals() {
        CHECKS.about("promise 6");
        ReadBarrierMachine x = Lines.machine(50, 1);
        due("none is open", x.seal(), false);
        x.method(-1);
        due("no instruction", x.seal(), false);
        for (int op = 0; op <= 15; op++) {
            x.drop();
            x.method(-1);
            x.code(14, 0, 0, 0);
            x.code(op, 0, 0, 0);
            boolean ends = op == 9 || op == 13 || op == 14;
            if (!ends) {
                due("last is " + op, x.seal(), false);
                due("it stays open", x.code(13, 0, 0, 0), 0);
            }
        }
        for (int op : new int[] {9, 13, 14}) {
            x.drop();
            int m = x.method(-1);
            x.code(op, 0, 0, 0);
            due("last is " + op, x.seal(), true);
            due("it is finished", x.start(m, 0), true);
            due("only once", x.seal(), false);
        }
    }

    private static void sealPlaces() {
        CHECKS.about("promise 6, places");
        for (int op = 9; op <= 11; op++) {
            for (int place = 0; place <= 11; place++) {
                for (int length = 2; length <= 12; length++) {
                    boolean sealed = sealsWith(op, place, length);
                    due(op + " to " + place + " of " + length, sealed, place < length);
                }
            }
        }
        ReadBarrierMachine x = Lines.machine(50, 1);
        x.method(-1);
        x.code(0, 0, 0, 12);
        x.code(2, 0, 99, 2);
        x.code(13, 0, 0, 99);
        due("the z of others is no place", x.seal(), true);
        for (int handler = -1; handler <= 11; handler++) {
            sealWithHandler(handler);
        }
    }

    /** Whether a method of that length is taken with one jump in the middle to the place. */
    private static boolean sealsWith(int op, int place, int length) {
        ReadBarrierMachine x = Lines.machine(50, 1);
        x.method(-1);
        for (int i = 0; i < length - 1; i++) {
            x.code(op, 0, 0, i == length / 2 - 1 ? place : 0);
        }
        x.code(13, 0, 0, 0);
        return x.seal();
    }

    private static void sealWithHandler(int handler) {
        ReadBarrierMachine x = Lines.machine(50, 1);
        x.method(handler);
        for (int length = 1; length <= handler; length++) {
            x.code(14, 0, 0, 0);
            due("handler " + handler + " of " + length, x.seal(), false);
        }
        due("one line more", x.code(14, 0, 0, 0), 0);
        due("handler " + handler, x.seal(), true);
    }

    private static void dropGivesUp() {
        CHECKS.about("promise 7");
        ReadBarrierMachine x = Lines.machine(50, 1);
        due("none is open", x.drop(), false);
        due("method", x.method(5), 0);
        x.code(0, 0, 0, 55);
        x.code(14, 0, 0, 0);
        due("drop()", x.drop(), true);
        due("again", x.drop(), false);
        due("nothing to seal", x.seal(), false);
        due("nothing to start", x.start(0, 0), false);
        due("nothing to bind", x.bind(0, 0, 0), false);
        due("its number again", x.method(-1), 0);
        due("no lines are left", x.seal(), false);
        for (int i = 0; i < 12; i++) {
            due("room for twelve", x.code(13, 0, 0, 0), 0);
        }
        due("seal() with no handler left", x.seal(), true);
        due("a finished one is not dropped", x.drop(), false);
        due("it starts", x.start(0, 4), true);
        x.run(200);
        due("result()", x.result(), 4);
        due("next number", x.method(-1), 1);
        due("dropped while started", x.drop(), true);
        due("state()", x.state(), 1);
    }

    private static void startAnew() {
        CHECKS.about("promise 8");
        ReadBarrierMachine x = Lines.machine(24, 1);
        int m = Lines.method(x, -1, Lines.make(0, 2), Lines.make(1, 2), Lines.make(2, 1),
                Lines.constant(0, 5), Lines.constant(1, 6), Lines.constant(2, 7), Lines.show(1),
                Lines.raise(1));
        for (int value : new int[] {0, -1, LOW, HIGH, 42}) {
            due("start", x.start(m, value), true);
            due("state()", x.state(), 0);
            due("result()", x.result(), 0);
            due("number(0)", x.number(0), value);
            due("number(1)", x.number(1), 0);
            due("number(2)", x.number(2), 0);
            due("number(3)", x.number(3), 0);
            due("kindAt(0, -1)", x.kindAt(0, -1), -1);
            due("kindAt(1, -1)", x.kindAt(1, -1), -1);
            due("kindAt(2, -1)", x.kindAt(2, -1), -1);
            due("used()", x.used(), 9);
            due("live()", x.live(), 9);
            due("grey()", x.grey(), 0);
            due("flips()", x.flips(), 0);
            due("work()", x.work(), 0);
            due("depth()", x.depth(), 1);
            due("shown(-1)", x.shown(-1), 0);
            due("shown(0)", x.shown(0), 0);
            due("run to the exception", x.run(value == 42 ? 8 : 9), value == 42 ? 8 : 9);
            due("flips() at the end", x.flips(), 1);
            due("work() at the end", x.work(), 9);
            due("shown(-1) at the end", x.shown(-1), 1);
        }
        int other = Lines.method(x, -1, Lines.constant(0, 3), Lines.giveBack(0, 0));
        due("start with an exception pending", x.start(other, 0), true);
        due("run", x.run(200), 2);
        due("nothing was pending", x.state(), 1);
        due("result()", x.result(), 3);
        x.method(-1);
        x.code(13, 0, 0, 0);
        due("start while one is open", x.start(other, 0), true);
        due("it is open still", x.seal(), true);
    }

    private static void startRefusals() {
        CHECKS.about("promise 8, refusals");
        ReadBarrierMachine x = Lines.machine(50, 1);
        int m = Lines.method(x, -1, Lines.make(0, 1), Lines.show(0), Lines.constant(1, 8), Lines.jump(1));
        x.method(-1);
        x.code(13, 0, 0, 0);
        x.start(m, 4);
        x.run(3);
        for (int wrong : new int[] {-1, 1, 2, 6, LOW, HIGH}) {
            due("start(" + wrong + ")", x.start(wrong, 1), false);
            due("state()", x.state(), 0);
            due("number(0)", x.number(0), 4);
            due("number(1)", x.number(1), 8);
            due("number(3)", x.number(3), 3);
            due("used()", x.used(), 12);
            due("shown(0)", x.shown(0), 4);
        }
        due("seal()", x.seal(), true);
        due("finished now", x.start(1, 1), true);
    }

    private static void runCounts() {
        CHECKS.about("promise 9");
        ReadBarrierMachine x = Lines.machine(50, 1);
        due("nothing started", x.run(5), 0);
        due("refused all the same", x.run(201), -1);
        int m = Lines.method(x, -1, Lines.constant(1, 1), Lines.add(0, 0, 1), Lines.jump(1));
        int end = Lines.method(x, -1, Lines.constant(1, 1), Lines.giveBack(0, 1));
        x.start(m, 0);
        for (int wrong : new int[] {-1, -2, LOW, 201, 202, HIGH}) {
            due("run(" + wrong + ")", x.run(wrong), -1);
        }
        due("nothing was done", x.number(3), 0);
        due("run(0)", x.run(0), 0);
        due("nothing was done", x.number(3), 0);
        due("run(1)", x.run(1), 1);
        due("run(200)", x.run(200), 200);
        due("a hundred rounds", x.number(0), 100);
        due("run(199)", x.run(199), 199);
        due("rounds", x.number(0), 200);
        x.start(end, 0);
        due("the step that ends it counts", x.run(2), 2);
        due("ended", x.run(1), 0);
        due("ended", x.run(200), 0);
        due("still refused", x.run(-1), -1);
        x.start(end, 0);
        due("fewer", x.run(3), 2);
    }

    private static void stateEnds() {
        CHECKS.about("promise 10");
        ReadBarrierMachine x = Lines.machine(24, 1);
        due("nothing started", x.state(), 4);
        int back = Lines.method(x, -1, Lines.constant(1, 9), Lines.giveBack(0, 1));
        due("written, not started", x.state(), 4);
        int thrown = Lines.method(x, -1, Lines.constant(1, 7), Lines.raise(1));
        int filled = Lines.method(x, -1, Lines.make(0, 2), Lines.put(0, 1, 0), Lines.copy(1, 0), Lines.jump(0));
        x.start(back, 0);
        due("started", x.state(), 0);
        x.run(1);
        due("not ended", x.state(), 0);
        x.run(1);
        due("by RETURN", x.state(), 1);
        x.start(thrown, 0);
        x.run(2);
        due("pending", x.state(), 0);
        due("the step that ends it", x.run(5), 1);
        due("uncaught", x.state(), 2);
        x.start(filled, 0);
        x.run(200);
        due("out of room", x.state(), 3);
        due("ended", x.run(9), 0);
        due("still", x.state(), 3);
        x.start(back, 0);
        due("anew", x.state(), 0);
        x.run(9);
        due("and to the end", x.state(), 1);
    }

    private static void resultValues() {
        CHECKS.about("promise 11");
        ReadBarrierMachine x = Lines.machine(24, 1);
        int back = Lines.method(x, -1, Lines.constant(1, LOW), Lines.giveBack(0, 1));
        int thrown = Lines.method(x, -1, Lines.constant(2, HIGH), Lines.raise(2));
        int none = Lines.method(x, -1, Lines.constant(0, 0), Lines.raise(0));
        int filled = Lines.method(x, -1, Lines.make(0, 2), Lines.put(0, 1, 0), Lines.copy(1, 0), Lines.jump(0));
        x.start(back, 0);
        x.run(1);
        due("none yet", x.result(), 0);
        x.run(1);
        due("of RETURN", x.result(), LOW);
        x.start(thrown, 0);
        due("none after start", x.result(), 0);
        x.run(2);
        due("none while pending", x.result(), 0);
        x.run(1);
        due("uncaught", x.result(), HIGH);
        x.start(none, 5);
        due("exception 0 is one, too", x.run(9), 3);
        due("state()", x.state(), 2);
        due("result()", x.result(), 0);
        x.start(back, 0);
        x.run(2);
        x.start(filled, 7);
        x.run(200);
        due("out of room", x.result(), 0);
    }

    private static void shownValues() {
        CHECKS.about("promise 12");
        ReadBarrierMachine x = started(0, Lines.constant(1, 3), Lines.add(0, 0, 1), Lines.show(0), Lines.jump(1));
        due("none", x.shown(-1), 0);
        x.run(2);
        for (int count = 0; count <= 20; count++) {
            due("shown(-1)", x.shown(-1), count);
            for (int k = 0; k <= 7; k++) {
                due("shown(" + k + ") of " + count, x.shown(k), k < count ? 3 * (count - k) : 0);
            }
            for (int k : new int[] {LOW, -3, -2, 8, 9, 16, HIGH}) {
                due("shown(" + k + ") of " + count, x.shown(k), 0);
            }
            x.run(3);
        }
        x.start(0, 0);
        due("none since the start", x.shown(-1), 0);
        due("none since the start", x.shown(0), 0);
        x.run(3);
        due("one", x.shown(-1), 1);
        due("the latest", x.shown(0), 3);
        due("not from before the start", x.shown(1), 0);
    }

    private static void workOfRuns() {
        CHECKS.about("promise 13");
        ReadBarrierMachine x = Lines.machine(24, 2);
        int m = Lines.method(x, -1, Lines.make(0, 1), Lines.jump(0));
        due("nothing started", x.work(), 0);
        x.run(5);
        due("no steps", x.work(), 0);
        x.start(m, 0);
        x.run(10);
        due("five makings, no flip", x.work(), 0);
        due("used()", x.used(), 24);
        x.run(1);
        due("the flip moves the frame", x.work(), 9);
        x.run(1);
        due("a jump", x.work(), 0);
        x.run(1);
        due("the scan; R0 held a new one", x.work(), 6);
        x.run(2);
        due("the rest of the row", x.work(), 3);
        x.run(2);
        due("the row is done", x.work(), 0);
        x.run(1);
        x.run(1);
        due("full, no flip yet", x.used(), 24);
        x.run(2);
        due("the flip after a jump", x.work(), 9);
        due("refused", x.run(201), -1);
        due("work() of the run before", x.work(), 9);
        due("refused", x.run(-1), -1);
        due("work() of the run before", x.work(), 9);
        due("run(0)", x.run(0), 0);
        due("no steps", x.work(), 0);
        x.start(m, 0);
        x.run(17);
        due("the greatest, not the last or the sum", x.work(), 9);
        x.start(m, 0);
        due("none since the start", x.work(), 0);
    }

    private static void usedCells() {
        CHECKS.about("promise 14");
        ReadBarrierMachine x = Lines.machine(40, 1);
        due("nothing started", x.used(), 0);
        int m = Lines.method(x, -1, Lines.make(0, 0), Lines.make(0, 1), Lines.make(0, 2), Lines.clear(0),
                Lines.make(1, 2), Lines.make(1, 2), Lines.make(1, 0), Lines.make(1, 1), Lines.make(1, 2),
                Lines.giveBack(0, 0));
        x.start(m, 0);
        int[] due = {9, 10, 13, 20, 20, 27, 34, 35, 38, 16, 16};
        for (int i = 0; i < due.length; i++) {
            due("after " + i + " steps", x.used(), due[i]);
            x.run(1);
        }
        due("after the end", x.used(), 16);
        x.start(m, 0);
        due("after start", x.used(), 9);
    }

    private static void greyCells() {
        CHECKS.about("promise 15");
        ReadBarrierMachine x = Lines.machine(24, 1);
        int m = Lines.method(x, -1, Lines.make(0, 2), Lines.make(1, 2), Lines.make(2, 0), Lines.clear(1),
                Lines.make(1, 0), Lines.copy(2, 0), Lines.make(1, 0), Lines.make(1, 1), Lines.make(1, 0),
                Lines.make(1, 0), Lines.make(1, 0), Lines.jump(10));
        x.start(m, 0);
        x.run(3);
        due("no flip", x.grey(), 0);
        due("full", x.used(), 24);
        x.run(2);
        due("the frame", x.grey(), 9);
        due("used()", x.used(), 10);
        x.run(1);
        due("and what was copied", x.grey(), 16);
        x.run(1);
        due("its head was scanned", x.grey(), 15);
        x.run(1);
        due("three more", x.grey(), 12);
        x.run(3);
        due("one each", x.grey(), 9);
        due("used()", x.used(), 24);
        x.start(m, 0);
        due("after start", x.grey(), 0);
    }

    private static void flipCounts() {
        CHECKS.about("promise 16");
        ReadBarrierMachine x = Lines.machine(24, 8);
        due("nothing started", x.flips(), 0);
        int m = Lines.method(x, -1, Lines.make(0, 1), Lines.jump(0));
        x.start(m, 0);
        // Five makings fill the room; the sixth flips and leaves room for four more.
        for (int made = 1; made <= 40; made++) {
            x.run(2);
            due("flips() after " + made, x.flips(), (made - 1) / 5);
        }
        x.start(m, 0);
        due("since the start", x.flips(), 0);
    }

    private static void depthOfCalls() {
        CHECKS.about("promise 17");
        ReadBarrierMachine x = Lines.machine(120, 1);
        due("nothing started", x.depth(), 0);
        int m = Lines.method(x, -1, Lines.constant(1, -1), Lines.ifZero(0, 5), Lines.add(0, 0, 1),
                Lines.make(0, 0), Lines.call(0, 0, 0), Lines.giveBack(0, 0));
        x.bind(0, 0, m);
        x.start(m, 6);
        for (int depth = 1; depth <= 7; depth++) {
            due("going down", x.depth(), depth);
            x.run(depth < 7 ? 5 : 2);
        }
        for (int depth = 7; depth >= 1; depth--) {
            due("going up", x.depth(), depth);
            x.run(1);
        }
        due("at the end", x.depth(), 1);
        due("state()", x.state(), 1);
        x.start(m, 1);
        due("after start", x.depth(), 1);
    }

    private static void liveCells() {
        CHECKS.about("promise 18");
        ReadBarrierMachine x = Lines.machine(60, 1);
        due("nothing started", x.live(), 0);
        int m = Lines.method(x, -1, Lines.make(0, 2), Lines.make(1, 1), Lines.put(0, 1, 0),
                Lines.put(0, 1, 2), Lines.put(1, 0, 0), Lines.copy(2, 1), Lines.clear(1), Lines.clear(0),
                Lines.clear(2), Lines.make(0, 0), Lines.call(0, 0, 0), Lines.giveBack(0, 0));
        int callee = Lines.method(x, -1, Lines.make(1, 1), Lines.giveBack(1, 0));
        x.bind(0, 0, callee);
        x.start(m, 0);
        int[] due = {9, 16, 19, 19, 19, 19, 19, 19, 19, 9, 10, 19, 22, 13, 13};
        for (int i = 0; i < due.length; i++) {
            due("after " + i + " steps", x.live(), due[i]);
            due("asked again", x.live(), due[i]);
            x.run(1);
        }
        due("state()", x.state(), 1);
        liveOldOnes();
    }

    private static void liveOldOnes() {
        CHECKS.about("promise 18, old ones");
        ReadBarrierMachine x = Lines.machine(24, 1);
        int m = Lines.method(x, -1, Lines.make(0, 2), Lines.make(1, 2), Lines.put(0, 1, 1),
                Lines.make(2, 1), Lines.clear(1), Lines.jump(5));
        x.start(m, 0);
        x.run(4);
        due("flips()", x.flips(), 1);
        due("used()", x.used(), 12);
        due("old ones count", x.live(), 26);
        due("and are not moved", x.used(), 12);
        due("grey()", x.grey(), 9);
        x.run(1);
        due("held by an old one alone", x.live(), 26);
    }

    private static void kindAtAnswers() {
        CHECKS.about("promise 19");
        ReadBarrierMachine x = Lines.machine(24, 1);
        due("nothing started", x.kindAt(0, -1), -1);
        int m = Lines.method(x, -1, Lines.make(0, 2), Lines.make(1, 1), Lines.put(0, 1, 2),
                Lines.put(1, 0, 0), Lines.make(2, 0), Lines.make(2, 0), Lines.make(2, 0), Lines.make(2, 0),
                Lines.make(2, 0), Lines.make(2, 0), Lines.jump(10));
        x.start(m, 0);
        due("NONE", x.kindAt(0, -1), -1);
        due("ref of NONE", x.kindAt(0, 0), -1);
        x.run(4);
        for (int round = 0; round < 2; round++) {
            due("R0", x.kindAt(0, -1), 2);
            due("R1", x.kindAt(1, -1), 1);
            due("ref 0 of R0: NONE", x.kindAt(0, 0), -1);
            due("ref 1 of R0: NONE", x.kindAt(0, 1), -1);
            due("ref 2 of R0", x.kindAt(0, 2), 1);
            due("ref 0 of R1", x.kindAt(1, 0), 2);
            due("no ref 1 in R1", x.kindAt(1, 1), -1);
            due("an int is no ref", x.kindAt(1, 2), -1);
            for (int f : new int[] {LOW, -3, -2, 3, 4, 7, HIGH}) {
                due("kindAt(0, " + f + ")", x.kindAt(0, f), -1);
                due("kindAt(1, " + f + ")", x.kindAt(1, f), -1);
            }
            for (int r : new int[] {LOW, -2, -1, 3, 4, HIGH}) {
                due("kindAt(" + r + ", -1)", x.kindAt(r, -1), -1);
                due("kindAt(" + r + ", 0)", x.kindAt(r, 0), -1);
            }
            x.run(6);
            due("kind 0", x.kindAt(2, -1), 0);
            due("kind 0 has no ref", x.kindAt(2, 0), -1);
            due("old in the second round", x.flips(), 1);
            due("and not moved by questions", x.used(), 10);
        }
    }

    private static void numberAnswers() {
        CHECKS.about("promise 20");
        ReadBarrierMachine x = Lines.machine(50, 1);
        due("nothing started", x.number(0), 0);
        due("nothing started", x.number(3), 0);
        int m = Lines.method(x, -1, Lines.constant(1, 21), Lines.constant(2, 22), Lines.jump(5),
                Lines.make(0, 0), Lines.make(0, 0), Lines.raise(1));
        x.start(m, 20);
        int[] place = {0, 1, 2, 5, 6, 6};
        for (int i = 0; i < place.length; i++) {
            due("number(0)", x.number(0), 20);
            due("number(1) after " + i, x.number(1), i >= 1 ? 21 : 0);
            due("number(2) after " + i, x.number(2), i >= 2 ? 22 : 0);
            due("number(3) after " + i, x.number(3), place[i]);
            for (int wrong : new int[] {LOW, -1, 4, 5, HIGH}) {
                due("number(" + wrong + ")", x.number(wrong), 0);
            }
            x.run(1);
        }
        due("uncaught", x.state(), 2);
    }

    private static void instructionsOnNumbers() {
        CHECKS.about("instructions 0, 1, 15");
        ReadBarrierMachine x = started(HIGH, Lines.constant(1, 1), Lines.add(2, 0, 1), Lines.show(2),
                Lines.add(0, 2, 2), Lines.show(0), Lines.constant(2, LOW), Lines.add(2, 2, 2), Lines.show(2),
                Lines.show(1), Lines.giveBack(0, 0));
        due("run", x.run(200), 10);
        due("it wraps", x.shown(3), LOW);
        due("twice LOW", x.shown(2), 0);
        due("x is y and z", x.shown(1), 0);
        due("I1", x.shown(0), 1);
    }

    private static void instructionsOnObjects() {
        CHECKS.about("instructions 2 to 8");
        ReadBarrierMachine x = started(33, Lines.make(0, 2), Lines.load(1, 0, 2), Lines.show(1),
                Lines.store(0, 0, 2), Lines.store(0, 0, 0), Lines.load(1, 0, 2), Lines.show(1),
                Lines.load(1, 0, 1), Lines.show(1), Lines.make(1, 1), Lines.put(0, 1, 2), Lines.giveBack(0, 0));
        due("run", x.run(200), 12);
        due("a new object's int", x.shown(2), 0);
        due("int 2", x.shown(1), 33);
        due("int 1", x.shown(0), 0);
        due("ref 2", x.kindAt(0, 2), 1);
        due("ref 1", x.kindAt(0, 1), -1);
        due("ref 0", x.kindAt(0, 0), -1);
        x = started(0, Lines.make(0, 2), Lines.make(1, 1), Lines.put(0, 1, 1), Lines.clear(1),
                Lines.get(2, 0, 1), Lines.get(1, 0, 0), Lines.copy(1, 0), Lines.put(0, 1, 0),
                Lines.copy(0, 2), Lines.clear(2), Lines.put(1, 2, 1), Lines.giveBack(0, 0));
        x.run(4);
        due("R1 is clear", x.kindAt(1, -1), -1);
        x.run(1);
        due("R2 was got", x.kindAt(2, -1), 1);
        x.run(1);
        due("NONE was got", x.kindAt(1, -1), -1);
        x.run(1);
        due("R1 is a copy", x.kindAt(1, -1), 2);
        x.run(1);
        due("it holds itself", x.kindAt(1, 0), 2);
        x.run(1);
        due("R0 is another", x.kindAt(0, -1), 1);
        due("R1 stays", x.kindAt(1, -1), 2);
        x.run(2);
        due("NONE was put", x.kindAt(1, 1), -1);
        due("used()", x.used(), 19);
    }

    private static void instructionsThatJump() {
        CHECKS.about("instructions 9 to 11");
        ReadBarrierMachine x = started(0, Lines.ifZero(0, 2), Lines.raise(0), Lines.constant(0, 5),
                Lines.ifZero(0, 1), Lines.ifVoid(2, 6), Lines.raise(0), Lines.make(2, 0), Lines.ifVoid(2, 5),
                Lines.jump(10), Lines.raise(0), Lines.giveBack(0, 0));
        int[] places = {2, 3, 4, 6, 7, 8, 10, 11};
        for (int place : places) {
            x.run(1);
            due("number(3)", x.number(3), place);
        }
        due("state()", x.state(), 1);
        due("result()", x.result(), 5);
    }

    private static void instructionsThatCall() {
        CHECKS.about("instructions 12, 13");
        ReadBarrierMachine x = Lines.machine(120, 1);
        int callee = Lines.method(x, -1, Lines.make(2, 0), Lines.constant(1, 61), Lines.constant(0, 60),
                Lines.giveBack(2, 1));
        int m = Lines.method(x, -1, Lines.make(0, 1), Lines.make(1, 2), Lines.make(2, 2), Lines.constant(1, 51),
                Lines.constant(2, 52), Lines.call(0, 1, 3), Lines.giveBack(1, 2));
        x.bind(1, 3, callee);
        x.start(m, 50);
        x.run(6);
        due("depth()", x.depth(), 2);
        due("R0 is the object", x.kindAt(0, -1), 1);
        due("R1 is what Ry was", x.kindAt(1, -1), 2);
        due("R2 is NONE", x.kindAt(2, -1), -1);
        due("I0 is the caller's", x.number(0), 50);
        due("I1", x.number(1), 0);
        due("I2", x.number(2), 0);
        due("PLACE", x.number(3), 0);
        due("used()", x.used(), 9 + 3 + 7 + 7 + 9);
        x.run(4);
        due("depth()", x.depth(), 1);
        due("R0 stays", x.kindAt(0, -1), 1);
        due("R1 stays", x.kindAt(1, -1), 2);
        due("R2 is the answer", x.kindAt(2, -1), 0);
        due("I0 stays", x.number(0), 50);
        due("I1 stays", x.number(1), 51);
        due("I2 is the number given back", x.number(2), 61);
        due("PLACE is behind the call", x.number(3), 6);
        x.run(1);
        due("state()", x.state(), 1);
        due("result()", x.result(), 61);
    }

    private static void exceptionsByInstruction() {
        CHECKS.about("exceptions 1 to 3");
        int[][] onNone = {
            Lines.get(0, 2, 0), Lines.put(2, 0, 0), Lines.load(0, 2, 0), Lines.store(2, 0, 0),
            Lines.call(2, 0, 0), Lines.get(0, 2, 2), Lines.store(2, 0, 2)
        };
        int[][] noPart = {
            Lines.get(2, 0, 1), Lines.put(0, 1, 1), Lines.load(1, 0, 1), Lines.store(0, 1, 1),
            Lines.get(2, 0, 2), Lines.put(0, 1, 2), Lines.load(1, 0, 2), Lines.store(0, 1, 2)
        };
        for (int[] line : onNone) {
            exceptionOf(line, 1);
        }
        for (int[] line : noPart) {
            exceptionOf(line, 2);
        }
        exceptionOf(Lines.call(0, 0, 0), 3);
        exceptionOf(Lines.call(0, 2, 3), 3);
    }

    /** The line stands where R0 and R1 hold objects of kind 1 and R2 holds NONE. */
    private static void exceptionOf(int[] line, int due) {
        ReadBarrierMachine x = Lines.machine(120, 1);
        String name = "instruction " + line[0] + " on ref or int " + line[3];
        x.start(Lines.method(x, 5, Lines.make(0, 1), Lines.make(1, 1), Lines.constant(1, 9), line,
                Lines.jump(0), Lines.show(2), Lines.giveBack(0, 2)), 8);
        x.run(4);
        due(name + ": pending, not yet handled", x.number(2), 0);
        due(name + ": PLACE", x.number(3), 4);
        due(name + ": I0", x.number(0), 8);
        due(name + ": I1", x.number(1), 9);
        due(name + ": R0", x.kindAt(0, -1), 1);
        due(name + ": R0's ref", x.kindAt(0, 0), -1);
        due(name + ": R2", x.kindAt(2, -1), -1);
        due(name + ": depth()", x.depth(), 1);
        due(name + ": used()", x.used(), 15);
        x.run(1);
        due(name + ": handler", x.number(3), 5);
        due(name + ": I2", x.number(2), due);
        due(name + ": the rest", x.run(200), 2);
        due(name + ": result()", x.result(), due);
    }

    private static void exceptionsThroughFrames() {
        CHECKS.about("exceptions and frames");
        ReadBarrierMachine x = Lines.machine(120, 1);
        int inner = Lines.method(x, -1, Lines.constant(0, 77), Lines.raise(0));
        int middle = Lines.method(x, -1, Lines.call(0, 0, 0), Lines.giveBack(0, 0));
        int outer = Lines.method(x, 3, Lines.make(0, 0), Lines.call(0, 0, 1), Lines.giveBack(0, 0),
                Lines.raise(0));
        int bare = Lines.method(x, -1, Lines.make(0, 0), Lines.call(0, 0, 1), Lines.giveBack(0, 0));
        x.bind(0, 0, inner);
        x.bind(0, 1, middle);
        x.start(outer, 4);
        int[] depths = {1, 1, 2, 3, 3, 3, 2, 1, 1, 1, 1};
        for (int i = 0; i < depths.length; i++) {
            due("depth() after " + i, x.depth(), depths[i]);
            x.run(1);
        }
        due("handled again and again", x.state(), 0);
        due("I2 is the handler's own exception", x.number(2), 4);
        x.start(outer, 4);
        x.run(8);
        due("I2 is the callee's exception", x.number(2), 77);
        due("PLACE is the handler", x.number(3), 3);
        due("the frames left are garbage", x.live(), 10);
        x.start(bare, 4);
        due("uncaught after one step a frame", x.run(200), 8);
        due("state()", x.state(), 2);
        due("result()", x.result(), 77);
        due("depth()", x.depth(), 1);
        due("PLACE", x.number(3), 2);
    }
}
