/**
 * Promises 1 to 7: what is made, loaded and written before a machine runs. One test for each
 * sentence of the document that names an edge, on both sides of that edge.
 */
public final class WritingTest {
    private static final int LOW = Integer.MIN_VALUE;
    private static final int HIGH = Integer.MAX_VALUE;
    private static final int RETURN = 13;
    private static final int THROW = 14;

    private static final Checks CHECKS = new Checks();

    private WritingTest() {
    }

    public static void main(String[] args) {
        roomBelow();
        roomAbove();
        paceBelow();
        paceAbove();
        newOneIsEmpty();
        kindNumbers();
        kindTableOfParent();
        kindTableWithoutParent();
        kindFour();
        kindParent();
        kindPartsAreFewOrMany();
        kindPartsOfParent();
        kindPartsAreThere();
        bindFromNowOn();
        bindKind();
        bindSelector();
        bindMethod();
        bindOtherTables();
        methodHandlerOrNone();
        methodWhileOneIsOpen();
        methodSix();
        methodHandlerPlaces();
        codeNoneOpen();
        codeTwelve();
        codeInstructions();
        codeOperands();
        codeKindOfNew();
        codeAnyInt();
        codeFirstThatHolds();
        sealNoneOpen();
        sealNoInstruction();
        sealLastOne();
        sealHandler();
        sealJumps();
        sealOtherNumbers();
        dropGivesUp();
        dropNumberIsTheNext();
        dropNoneOpen();
        CHECKS.end();
    }

    private static void due(String call, int got, int want) {
        CHECKS.due(call, got, want);
    }

    private static void due(String call, boolean got, boolean want) {
        CHECKS.due(call, got, want);
    }

    private static void roomBelow() {
        CHECKS.sentence("promise 1", "24 if that is below 24");
        for (int cells : new int[] {LOW, -120, -1, 0, 1, 22, 23, 24}) {
            roomIs(cells, 24);
        }
        roomIs(25, 25);
        roomIs(26, 26);
    }

    private static void roomAbove() {
        CHECKS.sentence("promise 1", "120 if above 120");
        roomIs(118, 118);
        roomIs(119, 119);
        for (int cells : new int[] {120, 121, 122, 1000, HIGH}) {
            roomIs(cells, 120);
        }
    }

    /** Objects of one cell are made until the room is full, and one more. */
    private static void roomIs(int cells, int due) {
        ReadBarrierMachine x = Lines.started(cells, 1, 0, Lines.make(0, 0), Lines.jump(0));
        for (int used = 9; used < due; used++) {
            x.run(2);
        }
        due("used() in a room of " + cells, x.used(), due);
        due("flips() in a room of " + cells, x.flips(), 0);
        x.run(2);
        due("used() with one more in a room of " + cells, x.used(), 10);
        due("flips() with one more in a room of " + cells, x.flips(), 1);
    }

    private static void paceBelow() {
        CHECKS.sentence("promise 1", "1 if that is below 1");
        for (int pace : new int[] {LOW, -8, -1, 0, 1}) {
            paceIs(pace, 1);
        }
        paceIs(2, 2);
        paceIs(3, 3);
    }

    private static void paceAbove() {
        CHECKS.sentence("promise 1", "8 if above 8");
        paceIs(6, 6);
        paceIs(7, 7);
        for (int pace : new int[] {8, 9, 10, 100, HIGH}) {
            paceIs(pace, 8);
        }
    }

    /** After a flip an object of one cell is made: as many cells are scanned as the pace tells. */
    private static void paceIs(int pace, int due) {
        ReadBarrierMachine x = Lines.started(24, pace, 0, Lines.make(0, 0), Lines.jump(0));
        x.run(2 * 16);
        due("grey() at the flip with pace " + pace, x.grey(), 9);
        x.run(1);
        due("grey() with pace " + pace, x.grey(), 9 - due);
        due("work() with pace " + pace, x.work(), due);
    }

    private static void newOneIsEmpty() {
        CHECKS.sentence("promise 1", "No kinds, no methods, nothing started.");
        ReadBarrierMachine x = new ReadBarrierMachine(50, 2);
        due("state()", x.state(), 4);
        due("run(10)", x.run(10), 0);
        due("start(0, 0)", x.start(0, 0), false);
        due("bind(0, 0, 0)", x.bind(0, 0, 0), false);
        due("code", x.code(RETURN, 0, 0, 0), 1);
        due("a kind with parent 0", x.kind(0, 0, 0), -1);
        due("method(-1)", x.method(-1), 0);
        due("NEW of kind 0", x.code(2, 0, 0, 0), 4);
        due("the first kind", x.kind(-1, 0, 0), 0);
        due("NEW of kind 0 then", x.code(2, 0, 0, 0), 0);
        due("state()", x.state(), 4);
    }

    private static void kindNumbers() {
        CHECKS.sentence("promise 2", "Its number.");
        ReadBarrierMachine x = new ReadBarrierMachine(50, 1);
        due("first", x.kind(-1, 0, 0), 0);
        due("refused", x.kind(-1, 4, 0), -1);
        due("second", x.kind(0, 3, 3), 1);
        due("refused", x.kind(2, 3, 3), -1);
        due("third", x.kind(1, 3, 3), 2);
        due("fourth", x.kind(-1, 1, 2), 3);
    }

    private static int showing(ReadBarrierMachine x, int value) {
        return Lines.method(x, -1, Lines.constant(1, value), Lines.show(1), Lines.giveBack(0, 0));
    }

    private static int calling(ReadBarrierMachine x, int kind, int selector) {
        return Lines.method(x, -1, Lines.make(0, kind), Lines.call(0, 0, selector), Lines.giveBack(0, 0));
    }

    /** What is shown in a run of the method, or the exception that ends it, below 0. */
    private static int answerOf(ReadBarrierMachine x, int m) {
        x.start(m, 0);
        x.run(20);
        return x.state() == 2 ? -x.result() : x.shown(0);
    }

    private static void kindTableOfParent() {
        CHECKS.sentence("promise 2", "its table is as its parent's is now");
        ReadBarrierMachine x = new ReadBarrierMachine(120, 1);
        x.kind(-1, 0, 0);
        int first = showing(x, 101);
        int second = showing(x, 102);
        due("loaded before", x.kind(0, 0, 0), 1);
        x.bind(0, 3, first);
        due("loaded between", x.kind(0, 1, 0), 2);
        x.bind(0, 3, second);
        due("loaded after", x.kind(0, 1, 0), 3);
        int[] due = {102, -3, 101, 102};
        for (int kind = 0; kind < 4; kind++) {
            due("selector 3 on kind " + kind, answerOf(x, calling(x, kind, 3)), due[kind]);
        }
        CHECKS.sentence("promise 2", "its table is as its parent's is now (all four selectors, two kinds up)");
        x = new ReadBarrierMachine(120, 1);
        x.kind(-1, 0, 0);
        first = showing(x, 101);
        second = showing(x, 102);
        x.bind(0, 0, first);
        x.kind(0, 0, 0);
        x.bind(1, 2, second);
        x.kind(1, 0, 0);
        due = new int[] {101, -3, 102, -3};
        for (int selector = 0; selector < 4; selector++) {
            due("selector " + selector, answerOf(x, calling(x, 2, selector)), due[selector]);
        }
    }

    private static void kindTableWithoutParent() {
        CHECKS.sentence("promise 2", "with a parent (-1: none): .. or empty");
        ReadBarrierMachine x = new ReadBarrierMachine(120, 1);
        x.kind(-1, 0, 0);
        int first = showing(x, 101);
        for (int selector = 0; selector < 4; selector++) {
            x.bind(0, selector, first);
        }
        x.kind(-1, 0, 0);
        for (int selector = 0; selector < 4; selector++) {
            due("selector " + selector, answerOf(x, calling(x, 1, selector)), -3);
        }
    }

    private static void kindFour() {
        CHECKS.sentence("promise 2", "-1, refused, if there are four");
        ReadBarrierMachine x = new ReadBarrierMachine(50, 1);
        for (int kind = 0; kind < 4; kind++) {
            due("kind", x.kind(-1, 1, 1), kind);
        }
        due("a fifth", x.kind(-1, 1, 1), -1);
        due("a fifth with a parent", x.kind(3, 1, 1), -1);
        x.method(-1);
        due("NEW of the fourth", x.code(2, 0, 0, 3), 0);
        due("NEW of a fifth", x.code(2, 0, 0, 4), 4);
    }

    private static void kindParent() {
        CHECKS.sentence("promise 2", "the parent is neither -1 nor a kind");
        ReadBarrierMachine x = new ReadBarrierMachine(50, 1);
        for (int loaded = 0; loaded < 4; loaded++) {
            for (int parent : new int[] {LOW, -3, -2, loaded, loaded + 1, HIGH}) {
                due("parent " + parent + " with " + loaded, x.kind(parent, 1, 1), -1);
            }
            // The oldest and the latest one are parents in turn, and -1 is none.
            int parent = loaded == 3 ? 0 : loaded - 1;
            due("parent " + parent + " with " + loaded, x.kind(parent, 1, 1), loaded);
        }
    }

    private static void kindPartsAreFewOrMany() {
        CHECKS.sentence("promise 2", "refs or ints is not 0 .. 3");
        for (int parts : new int[] {LOW, -2, -1, 0, 1, 2, 3, 4, 5, HIGH}) {
            int due = parts >= 0 && parts <= 3 ? 0 : -1;
            due(parts + " refs", new ReadBarrierMachine(50, 1).kind(-1, parts, 1), due);
            due(parts + " ints", new ReadBarrierMachine(50, 1).kind(-1, 1, parts), due);
            ReadBarrierMachine x = new ReadBarrierMachine(50, 1);
            x.kind(-1, 0, 0);
            due(parts + " refs of a child", x.kind(0, parts, 0), due == 0 ? 1 : -1);
            x = new ReadBarrierMachine(50, 1);
            x.kind(-1, 0, 0);
            due(parts + " ints of a child", x.kind(0, 0, parts), due == 0 ? 1 : -1);
        }
    }

    private static void kindPartsOfParent() {
        CHECKS.sentence("promise 2", "or is less than the parent has");
        for (int has = 0; has <= 3; has++) {
            for (int given = 0; given <= 3; given++) {
                ReadBarrierMachine x = new ReadBarrierMachine(50, 1);
                x.kind(-1, 2, 2);
                x.kind(-1, has, 1);
                due(given + " refs under " + has, x.kind(1, given, 1), given < has ? -1 : 2);
                x = new ReadBarrierMachine(50, 1);
                x.kind(-1, 2, 2);
                x.kind(-1, 1, has);
                due(given + " ints under " + has, x.kind(1, 1, given), given < has ? -1 : 2);
            }
        }
        ReadBarrierMachine x = new ReadBarrierMachine(50, 1);
        x.kind(-1, 1, 2);
        due("more refs, fewer ints", x.kind(0, 3, 1), -1);
        due("more ints, fewer refs", x.kind(0, 0, 3), -1);
        due("without the parent", x.kind(-1, 0, 0), 1);
        due("the parent's parent has fewer", x.kind(0, 2, 3), 2);
        due("as the parent's parent has", x.kind(2, 1, 2), -1);
    }

    private static void kindPartsAreThere() {
        CHECKS.sentence("terms", "from 0 to 3 refs and from 0 to 3 ints, numbered from 0");
        for (int refs = 0; refs <= 3; refs++) {
            for (int ints = 0; ints <= 3; ints++) {
                ReadBarrierMachine x = new ReadBarrierMachine(50, 1);
                x.kind(-1, refs, ints);
                x.start(Lines.method(x, -1, Lines.make(0, 0), Lines.giveBack(0, 0)), 0);
                x.run(1);
                due("cells of " + refs + " and " + ints, x.used(), 9 + 1 + refs + ints);
                for (int z = 0; z <= 2; z++) {
                    String which = z + " of " + refs + " and " + ints;
                    due("ref " + which, endOf(refs, ints, Lines.get(1, 0, z)), z < refs ? 1 : 2);
                    due("int " + which, endOf(refs, ints, Lines.load(1, 0, z)), z < ints ? 1 : 2);
                }
            }
        }
    }

    /** The state in which a machine ends with one line on an object of such a kind in R0. */
    private static int endOf(int refs, int ints, int[] line) {
        ReadBarrierMachine x = new ReadBarrierMachine(50, 1);
        x.kind(-1, refs, ints);
        x.start(Lines.method(x, -1, Lines.make(0, 0), line, Lines.giveBack(0, 0)), 0);
        x.run(200);
        return x.state();
    }

    private static void bindFromNowOn() {
        CHECKS.sentence("promise 3", "from now on (in a machine that runs, too)");
        ReadBarrierMachine x = Lines.machine(120, 1);
        int first = showing(x, 101);
        int second = showing(x, 102);
        int caller = Lines.method(x, -1, Lines.make(0, 1), Lines.call(0, 0, 2), Lines.call(0, 0, 2),
                Lines.call(0, 0, 1), Lines.giveBack(0, 0));
        due("bind", x.bind(1, 2, first), true);
        x.start(caller, 0);
        x.run(2);
        due("bind within the call", x.bind(1, 2, second), true);
        x.run(3);
        due("the frame keeps its method", x.shown(0), 101);
        x.run(3);
        due("the next call has the new one", x.shown(0), 102);
        x.run(3);
        due("not bound before the call", x.state(), 2);
        due("exception 3", x.result(), 3);
        x.start(caller, 0);
        x.run(8);
        due("bind before the call", x.bind(1, 1, first), true);
        x.run(200);
        due("bound before the call", x.state(), 1);
        due("shown(0)", x.shown(0), 101);
    }

    private static void bindKind() {
        CHECKS.sentence("promise 3", "if there is no such kind");
        ReadBarrierMachine x = new ReadBarrierMachine(50, 1);
        int m = showing(x, 101);
        for (int loaded = 0; loaded <= 4; loaded++) {
            for (int kind : new int[] {LOW, -2, -1, 0, 1, 2, 3, 4, 5, HIGH}) {
                boolean isThere = kind >= 0 && kind < loaded;
                due("bind(" + kind + ", 0, 0) with " + loaded, x.bind(kind, 0, m), isThere);
            }
            x.kind(-1, 0, 0);
        }
    }

    private static void bindSelector() {
        CHECKS.sentence("promise 3", "if there is no such .. selector");
        ReadBarrierMachine x = Lines.machine(50, 1);
        int m = showing(x, 101);
        for (int kind = 0; kind <= 2; kind++) {
            for (int selector : new int[] {LOW, -2, -1, 0, 1, 2, 3, 4, 5, HIGH}) {
                boolean isThere = selector >= 0 && selector <= 3;
                due("bind(" + kind + ", " + selector + ", 0)", x.bind(kind, selector, m), isThere);
            }
        }
    }

    private static void bindMethod() {
        CHECKS.sentence("promise 3", "if there is no such .. finished method");
        ReadBarrierMachine x = Lines.machine(50, 1);
        for (int finished = 0; finished < 6; finished++) {
            bindWithFinished(x, finished, "none open");
            x.method(-1);
            x.code(RETURN, 0, 0, 0);
            bindWithFinished(x, finished, "one open");
            x.seal();
        }
        bindWithFinished(x, 6, "none open");
    }

    private static void bindWithFinished(ReadBarrierMachine x, int finished, String open) {
        for (int m : new int[] {LOW, -1, 0, finished - 1, finished, finished + 1, HIGH}) {
            boolean isThere = m >= 0 && m < finished;
            due("bind(0, 0, " + m + ") with " + finished + ", " + open, x.bind(0, 0, m), isThere);
        }
    }

    private static void bindOtherTables() {
        CHECKS.sentence("promise 3", "(Tables of other kinds stay as they are.)");
        ReadBarrierMachine x = new ReadBarrierMachine(120, 1);
        x.kind(-1, 0, 0);
        x.kind(0, 0, 0);
        x.kind(1, 0, 0);
        x.kind(-1, 0, 0);
        int first = showing(x, 101);
        int second = showing(x, 102);
        int[] callers = {calling(x, 0, 1), calling(x, 1, 1), calling(x, 2, 1), calling(x, 3, 1)};
        x.bind(1, 1, first);
        answersAre(x, callers, -3, 101, -3, -3);
        x.bind(0, 1, second);
        answersAre(x, callers, 102, 101, -3, -3);
        x.bind(2, 0, second);
        x.bind(2, 2, second);
        answersAre(x, callers, 102, 101, -3, -3);
        x.bind(3, 1, second);
        x.bind(1, 1, second);
        answersAre(x, callers, 102, 102, -3, 102);
    }

    private static void answersAre(ReadBarrierMachine x, int[] callers, int... due) {
        for (int kind = 0; kind < due.length; kind++) {
            due("the call on kind " + kind, answerOf(x, callers[kind]), due[kind]);
        }
    }

    private static void methodHandlerOrNone() {
        CHECKS.sentence("promise 4", "with a handler (-1: none)");
        for (int handler = -1; handler <= 3; handler++) {
            ReadBarrierMachine x = Lines.machine(50, 1);
            x.start(Lines.method(x, handler, Lines.show(2), Lines.show(2), Lines.show(2), Lines.raise(0)), 9);
            x.run(5);
            due("state() with handler " + handler, x.state(), handler == -1 ? 2 : 0);
            due("number(2) with handler " + handler, x.number(2), handler == -1 ? 0 : 9);
            due("number(3) with handler " + handler, x.number(3), handler == -1 ? 4 : handler);
        }
    }

    private static void methodWhileOneIsOpen() {
        CHECKS.sentence("promise 4", "-1, refused, if one is open");
        ReadBarrierMachine x = new ReadBarrierMachine(50, 1);
        due("none open", x.method(-1), 0);
        due("open and empty", x.method(-1), -1);
        x.code(RETURN, 0, 0, 0);
        due("open with a line", x.method(-1), -1);
        due("drop()", x.drop(), true);
        due("dropped", x.method(-1), 0);
        due("a refused seal leaves it open", x.seal(), false);
        due("open still", x.method(-1), -1);
        x.code(RETURN, 0, 0, 0);
        due("seal()", x.seal(), true);
        due("sealed", x.method(-1), 1);
    }

    private static void methodSix() {
        CHECKS.sentence("promise 4", "there are six");
        ReadBarrierMachine x = new ReadBarrierMachine(50, 1);
        for (int m = 0; m < 5; m++) {
            due("method", x.method(-1), m);
            x.code(RETURN, 0, 0, 0);
            due("seal()", x.seal(), true);
        }
        due("a sixth", x.method(-1), 5);
        due("given up", x.drop(), true);
        due("a sixth again", x.method(0), 5);
        x.code(RETURN, 0, 0, 0);
        due("seal()", x.seal(), true);
        due("a seventh", x.method(-1), -1);
        due("a seventh with a handler", x.method(0), -1);
        due("none is open", x.code(RETURN, 0, 0, 0), 1);
        due("none to give up", x.drop(), false);
        due("still no seventh", x.method(-1), -1);
        due("the sixth starts", x.start(5, 0), true);
        due("no seventh starts", x.start(6, 0), false);
    }

    private static void methodHandlerPlaces() {
        CHECKS.sentence("promise 4", "the handler is not -1 .. 11");
        ReadBarrierMachine x = new ReadBarrierMachine(50, 1);
        for (int handler : new int[] {LOW, -3, -2, 12, 13, HIGH}) {
            due("method(" + handler + ")", x.method(handler), -1);
            due("none is open", x.drop(), false);
        }
        for (int handler = -1; handler <= 11; handler++) {
            due("method(" + handler + ")", x.method(handler), 0);
            due("one is open", x.drop(), true);
        }
    }

    private static void codeNoneOpen() {
        CHECKS.sentence("promise 5", "1 if none is open");
        ReadBarrierMachine x = new ReadBarrierMachine(50, 1);
        due("before the first", x.code(RETURN, 0, 0, 0), 1);
        x.method(-1);
        due("open", x.code(RETURN, 0, 0, 0), 0);
        x.drop();
        due("dropped", x.code(RETURN, 0, 0, 0), 1);
        x.method(-1);
        due("open", x.code(RETURN, 0, 0, 0), 0);
        x.seal();
        due("sealed", x.code(RETURN, 0, 0, 0), 1);
        x.method(12);
        due("opening was refused", x.code(RETURN, 0, 0, 0), 1);
    }

    private static void codeTwelve() {
        CHECKS.sentence("promise 5", "2 if it has twelve");
        ReadBarrierMachine x = new ReadBarrierMachine(50, 1);
        for (int m = 0; m < 6; m++) {
            x.method(-1);
            for (int line = 1; line <= 12; line++) {
                due("line " + line + " of method " + m, x.code(THROW, 0, 0, 0), 0);
            }
            due("a thirteenth of method " + m, x.code(THROW, 0, 0, 0), 2);
            due("a thirteenth again", x.code(RETURN, 0, 0, 0), 2);
            due("seal()", x.seal(), true);
            x.start(m, 7);
            x.run(1);
            due("the first line was not written over", x.state(), 0);
        }
    }

    private static void codeInstructions() {
        CHECKS.sentence("promise 5", "3 if there is no instruction op");
        ReadBarrierMachine x = Lines.machine(50, 1);
        x.method(-1);
        for (int op : new int[] {LOW, -2, -1, 16, 17, HIGH}) {
            due("instruction " + op, x.code(op, 0, 0, 0), 3);
        }
        for (int op = 0; op <= 15; op++) {
            x.drop();
            x.method(-1);
            due("instruction " + op, x.code(op, 0, 0, 0), 0);
        }
    }

    private static void codeOperands() {
        CHECKS.sentence("promise 5", "4 if x, y or z is not as said there");
        int[] zValues = {-1, 3, 3, -1, -1, 3, 3, 3, 3, 12, 12, 12, 4, -1, -1, -1};
        int[] tried = {LOW, -2, -1, 0, 1, 2, 3, 4, 11, 12, 13, HIGH};
        for (int op = 0; op <= 15; op++) {
            ReadBarrierMachine x = Lines.machine(50, 1);
            boolean hasX = op != 9;
            boolean hasY = op == 1 || op == 3 || (op >= 5 && op <= 8) || op == 12 || op == 13;
            for (int t : tried) {
                boolean isRegister = t >= 0 && t <= 2;
                boolean isZ = zValues[op] == -1 || (t >= 0 && t < zValues[op]);
                due("x " + t + " of " + op, codeAlone(x, op, t, 0, 0), !hasX || isRegister ? 0 : 4);
                due("y " + t + " of " + op, codeAlone(x, op, 0, t, 0), !hasY || isRegister ? 0 : 4);
                due("z " + t + " of " + op, codeAlone(x, op, 0, 0, t), isZ ? 0 : 4);
            }
        }
    }

    private static int codeAlone(ReadBarrierMachine machine, int op, int x, int y, int z) {
        machine.method(-1);
        int answer = machine.code(op, x, y, z);
        machine.drop();
        return answer;
    }

    private static void codeKindOfNew() {
        CHECKS.sentence("terms", "an object of kind z (loaded already)");
        ReadBarrierMachine x = new ReadBarrierMachine(50, 1);
        x.method(-1);
        for (int loaded = 0; loaded < 4; loaded++) {
            for (int z = -1; z <= 4; z++) {
                boolean isLoaded = z >= 0 && z < loaded;
                due("NEW of " + z + " with " + loaded, x.code(2, 0, 0, z), isLoaded ? 0 : 4);
            }
            x.kind(-1, 0, 0);
        }
        due("the fourth", x.code(2, 0, 0, 3), 0);
        due("no fifth", x.code(2, 0, 0, 4), 4);
    }

    private static void codeAnyInt() {
        CHECKS.sentence("terms", "Ix becomes z (any int)");
        for (int z : new int[] {LOW, LOW + 1, -1, 0, 1, 12, HIGH - 1, HIGH}) {
            ReadBarrierMachine x = Lines.started(50, 1, 5, Lines.constant(0, z), Lines.giveBack(0, 0));
            x.run(2);
            due("CONST " + z, x.result(), z);
        }
    }

    private static void codeFirstThatHolds() {
        CHECKS.sentence("promise 5", "Refused, the first that holds");
        ReadBarrierMachine x = new ReadBarrierMachine(50, 1);
        due("1 before 3 and 4", x.code(16, 9, 9, 9), 1);
        due("1 before 4", x.code(THROW, 9, 9, 9), 1);
        x.method(-1);
        due("3 before 4", x.code(16, 9, 9, 9), 3);
        due("3 before 4", x.code(-1, -1, -1, -1), 3);
        for (int i = 0; i < 12; i++) {
            due("4 is not written", x.code(THROW, 3, 0, 0), 4);
            due("3 is not written", x.code(16, 0, 0, 0), 3);
            due("line " + i, x.code(THROW, 0, 0, 0), 0);
        }
        due("2 before 3 and 4", x.code(16, 9, 9, 9), 2);
        due("2 before 4", x.code(THROW, 9, 9, 9), 2);
        x.seal();
        due("1 before 2: the sealed one has twelve", x.code(THROW, 0, 0, 0), 1);
        x.method(-1);
        due("a new one has none", x.code(THROW, 0, 0, 0), 0);
    }

    private static void sealNoneOpen() {
        CHECKS.sentence("promise 6", "False, refused, if none is open");
        ReadBarrierMachine x = new ReadBarrierMachine(50, 1);
        due("before the first", x.seal(), false);
        x.method(-1);
        x.code(RETURN, 0, 0, 0);
        due("open", x.seal(), true);
        due("once more", x.seal(), false);
        due("no second method came of it", x.start(1, 0), false);
        x.method(-1);
        x.code(RETURN, 0, 0, 0);
        x.drop();
        due("dropped", x.seal(), false);
        due("no second method came of it", x.start(1, 0), false);
    }

    private static void sealNoInstruction() {
        CHECKS.sentence("promise 6", "or it has no instruction");
        ReadBarrierMachine x = new ReadBarrierMachine(50, 1);
        x.method(-1);
        due("none", x.seal(), false);
        due("it is no finished one", x.start(0, 0), false);
        due("it is open still", x.code(RETURN, 0, 0, 0), 0);
        due("one", x.seal(), true);
        x.method(-1);
        due("none in the second", x.seal(), false);
        x.code(RETURN, 0, 0, 0);
        due("one in the second", x.seal(), true);
    }

    private static void sealLastOne() {
        CHECKS.sentence("promise 6", "its last one is not JUMP, RETURN or THROW");
        for (int op = 0; op <= 15; op++) {
            boolean ends = op == 9 || op == RETURN || op == THROW;
            ReadBarrierMachine x = Lines.machine(50, 1);
            x.method(-1);
            x.code(op, 0, 0, 0);
            due("the only one is " + op, x.seal(), ends);
            x.drop();
            x.method(-1);
            x.code(RETURN, 0, 0, 0);
            x.code(op, 0, 0, 0);
            due("RETURN, then " + op, x.seal(), ends);
            if (!ends) {
                due("it is open still", x.code(RETURN, 0, 0, 0), 0);
                due(op + ", then RETURN", x.seal(), true);
            }
        }
    }

    private static void sealHandler() {
        CHECKS.sentence("promise 6", "or its handler .. is a place where it has no instruction");
        for (int handler = -1; handler <= 11; handler++) {
            ReadBarrierMachine x = Lines.machine(50, 1);
            x.method(handler);
            for (int length = 1; length <= handler; length++) {
                x.code(THROW, 0, 0, 0);
                due("handler " + handler + " of " + length, x.seal(), false);
            }
            due("one line more", x.code(THROW, 0, 0, 0), 0);
            due("handler " + handler + " of one more", x.seal(), true);
        }
    }

    private static void sealJumps() {
        CHECKS.sentence("promise 6", "the z of one of its JUMP, ZERO or VOID is a place where it has no instruction");
        for (int op = 9; op <= 11; op++) {
            for (int place = 0; place <= 11; place++) {
                for (int length = 2; length <= 12; length++) {
                    String which = op + " to " + place + " of " + length;
                    due(which + ", first", sealsWith(op, place, length, 0), place < length);
                    due(which + ", later", sealsWith(op, place, length, length - 2), place < length);
                }
            }
        }
        for (int length = 1; length <= 11; length++) {
            due("last JUMP of " + length, sealsWith(9, length, length, length - 1), false);
            due("last JUMP of " + length, sealsWith(9, length - 1, length, length - 1), true);
        }
    }

    /** Whether a method of that length is taken with such an instruction at a place. */
    private static boolean sealsWith(int op, int z, int length, int at) {
        ReadBarrierMachine x = Lines.machine(50, 1);
        x.method(-1);
        for (int i = 0; i < length; i++) {
            if (i == at) {
                x.code(op, 0, 0, z);
            } else {
                x.code(RETURN, 0, 0, 0);
            }
        }
        return x.seal();
    }

    private static void sealOtherNumbers() {
        CHECKS.sentence("promise 6", "the z of one of its JUMP, ZERO or VOID (of no other one)");
        int[] greatest = {HIGH, 2, 2, HIGH, HIGH, 2, 2, 2, 2, 0, 0, 0, 3, HIGH, HIGH, HIGH};
        for (int op = 0; op <= 15; op++) {
            ReadBarrierMachine x = Lines.machine(50, 1);
            x.method(-1);
            due("instruction " + op, x.code(op, 2, 2, greatest[op]), 0);
            due("RETURN", x.code(RETURN, 2, 2, HIGH), 0);
            due("two lines, z " + greatest[op] + " of " + op, x.seal(), true);
        }
    }

    private static void dropGivesUp() {
        CHECKS.sentence("promise 7", "The open method is given up, as if it had not been opened");
        ReadBarrierMachine x = Lines.machine(50, 1);
        x.method(5);
        x.code(0, 0, 0, 55);
        x.code(THROW, 0, 0, 0);
        due("drop()", x.drop(), true);
        due("nothing to seal", x.seal(), false);
        due("nothing to start", x.start(0, 0), false);
        due("nothing to bind", x.bind(0, 0, 0), false);
        x.method(-1);
        due("no lines are left", x.seal(), false);
        for (int i = 0; i < 12; i++) {
            due("room for twelve", x.code(RETURN, 0, 0, 0), 0);
        }
        due("no handler is left", x.seal(), true);
        x.start(0, 4);
        due("its first line is the new one", x.run(200), 1);
        due("result()", x.result(), 4);
    }

    private static void dropNumberIsTheNext() {
        CHECKS.sentence("promise 7", "(its number is the next one's)");
        ReadBarrierMachine x = Lines.machine(50, 1);
        for (int m = 0; m < 6; m++) {
            due("opened", x.method(-1), m);
            due("drop()", x.drop(), true);
            due("opened again", x.method(-1), m);
            x.code(RETURN, 0, 0, 0);
            due("seal()", x.seal(), true);
        }
    }

    private static void dropNoneOpen() {
        CHECKS.sentence("promise 7", "false if none is open");
        ReadBarrierMachine x = Lines.machine(50, 1);
        due("before the first", x.drop(), false);
        x.method(-1);
        due("open and empty", x.drop(), true);
        due("once more", x.drop(), false);
        x.method(-1);
        x.code(RETURN, 0, 0, 0);
        x.seal();
        due("sealed", x.drop(), false);
        due("the sealed one is there", x.start(0, 4), true);
        x.run(1);
        x.method(-1);
        due("open while a machine has ended", x.drop(), true);
        due("state()", x.state(), 1);
    }
}
