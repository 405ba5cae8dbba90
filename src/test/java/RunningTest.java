/**
 * Promises 8 to 20: starting, running and asking. One test for each sentence of the document that
 * names an edge, on both sides of that edge.
 */
public final class RunningTest {
    private static final int LOW = Integer.MIN_VALUE;
    private static final int HIGH = Integer.MAX_VALUE;
    private static final int NOT_ENDED = 0;
    private static final int BY_RETURN = 1;
    private static final int UNCAUGHT = 2;
    private static final int OUT_OF_ROOM = 3;
    private static final int NOTHING_STARTED = 4;

    private static final Checks CHECKS = new Checks();

    private RunningTest() {
    }

    public static void main(String[] args) {
        startAnew();
        startNothingPending();
        startNoMovedOnes();
        startFinishedMethod();
        runSteps();
        runFewer();
        runEndedOrNotStarted();
        runMostSteps();
        stateOfEnds();
        stateNothingStarted();
        resultNoneYet();
        resultOfEnds();
        resultOutOfRoom();
        shownFromTheLatest();
        shownNotSoMuch();
        shownOutside();
        shownCount();
        workIsTheGreatest();
        workOfLatestRun();
        workNoSteps();
        workSinceTheStart();
        usedCells();
        usedNothingStarted();
        greyCells();
        flipsSinceTheStart();
        depthOfFrames();
        depthNothingStarted();
        liveCells();
        liveOldOnes();
        liveNothingStarted();
        kindAtRegister();
        kindAtRef();
        kindAtNone();
        kindAtNothingStarted();
        numberOfRegisters();
        numberIsPlace();
        numberOutside();
        useOfAnObject();
        CHECKS.end();
    }

    private static void due(String call, int got, int want) {
        CHECKS.due(call, got, want);
    }

    private static void due(String call, boolean got, boolean want) {
        CHECKS.due(call, got, want);
    }

    private static ReadBarrierMachine returning(int value) {
        return Lines.started(24, 1, value, Lines.constant(1, 1), Lines.giveBack(0, 0));
    }

    private static ReadBarrierMachine throwing(int value) {
        return Lines.started(24, 1, value, Lines.constant(1, 1), Lines.raise(0));
    }

    /** Each object holds the one before: room runs out in the thirteenth step. */
    private static ReadBarrierMachine filling(int value) {
        return Lines.started(24, 1, value, Lines.make(0, 2), Lines.put(0, 1, 0), Lines.copy(1, 0), Lines.jump(0));
    }

    private static void startAnew() {
        CHECKS.sentence("promise 8", "no objects but a new frame of method m .. its refs NONE, I0 value, "
                + "I1, I2 and PLACE 0; .. nothing shown, RESULT 0, no flips, work 0");
        ReadBarrierMachine x = Lines.machine(24, 1);
        int m = Lines.method(x, -1, Lines.make(0, 2), Lines.make(1, 2), Lines.make(2, 1),
                Lines.constant(0, 5), Lines.constant(1, 6), Lines.constant(2, 7), Lines.show(1), Lines.raise(1));
        for (int value : new int[] {0, -1, LOW, HIGH, 42}) {
            due("start", x.start(m, value), true);
            due("state()", x.state(), NOT_ENDED);
            due("result()", x.result(), 0);
            due("number(0)", x.number(0), value);
            for (int i = 1; i <= 3; i++) {
                due("number(" + i + ")", x.number(i), 0);
                due("kindAt(" + (i - 1) + ", -1)", x.kindAt(i - 1, -1), -1);
            }
            due("used()", x.used(), 9);
            due("live()", x.live(), 9);
            due("grey()", x.grey(), 0);
            due("flips()", x.flips(), 0);
            due("work()", x.work(), 0);
            due("depth()", x.depth(), 1);
            due("shown(-1)", x.shown(-1), 0);
            due("shown(0)", x.shown(0), 0);
            due("run(9)", x.run(9), 9);
            due("result() at the end", x.result(), 6);
            due("flips() at the end", x.flips(), 1);
            due("work() at the end", x.work(), 9);
            due("shown(-1) at the end", x.shown(-1), 1);
        }
    }

    private static void startNothingPending() {
        CHECKS.sentence("promise 8", "nothing pending");
        ReadBarrierMachine x = throwing(8);
        int other = Lines.method(x, 1, Lines.constant(0, 3), Lines.giveBack(0, 2));
        x.run(2);
        due("pending before", x.state(), NOT_ENDED);
        due("start", x.start(other, 0), true);
        due("run", x.run(1), 1);
        due("the first line was done", x.number(0), 3);
        due("and no handler", x.number(2), 0);
        x.run(1);
        due("state()", x.state(), BY_RETURN);
        due("result()", x.result(), 0);
    }

    private static void startNoMovedOnes() {
        CHECKS.sentence("terms", "At the start there are no moved and no old ones.");
        ReadBarrierMachine x = Lines.started(24, 1, 0, Lines.make(0, 2), Lines.make(1, 2), Lines.make(2, 2),
                Lines.copy(2, 0), Lines.jump(3));
        x.run(4);
        due("moved before", x.grey(), 16);
        due("old before", x.live() - x.used(), 0);
        due("start", x.start(0, 0), true);
        due("grey()", x.grey(), 0);
        due("used()", x.used(), 9);
        x.run(2);
        due("two of 7 go in", x.used(), 23);
        due("nothing was scanned or moved", x.work(), 0);
        due("flips()", x.flips(), 0);
        x.run(1);
        due("no third", x.flips(), 1);
        CHECKS.sentence("promise 8", "Starts anew (after the room was full)");
        x = filling(0);
        x.run(200);
        due("state()", x.state(), OUT_OF_ROOM);
        due("start", x.start(0, 0), true);
        due("state()", x.state(), NOT_ENDED);
        due("as the first time", x.run(200), 13);
        due("state()", x.state(), OUT_OF_ROOM);
    }

    private static void startFinishedMethod() {
        CHECKS.sentence("promise 8", "False, refused, if m is no finished method.");
        ReadBarrierMachine x = Lines.machine(50, 1);
        for (int finished = 0; finished < 6; finished++) {
            startWithFinished(x, finished, "none open");
            x.method(-1);
            x.code(13, 0, 0, 0);
            startWithFinished(x, finished, "one open");
            due("seal()", x.seal(), true);
        }
        startWithFinished(x, 6, "none open");
    }

    private static void startWithFinished(ReadBarrierMachine x, int finished, String open) {
        for (int m : new int[] {LOW, -1, 0, finished - 1, finished, finished + 1, HIGH}) {
            boolean isThere = m >= 0 && m < finished;
            due("start(" + m + ", 0) with " + finished + ", " + open, x.start(m, 0), isThere);
        }
    }

    private static void runSteps() {
        CHECKS.sentence("promise 9", "-1, refused, if n is not 0 .. 200");
        ReadBarrierMachine x = Lines.started(50, 1, 0, Lines.constant(1, 1), Lines.add(0, 0, 1), Lines.jump(1));
        for (int n : new int[] {LOW, -2, -1, 201, 202, HIGH}) {
            due("run(" + n + ")", x.run(n), -1);
            due("nothing was done", x.number(3), 0);
        }
        due("run(0)", x.run(0), 0);
        due("nothing was done", x.number(3), 0);
        due("run(1)", x.run(1), 1);
        due("one line was done", x.number(3), 1);
        due("run(200)", x.run(200), 200);
        due("a hundred rounds", x.number(0), 100);
        due("run(199)", x.run(199), 199);
        due("rounds", x.number(0), 200);
        due("PLACE", x.number(3), 2);
    }

    private static void runFewer() {
        CHECKS.sentence("promise 9", "fewer if the machine ends before: how many were done (one that ends it counts)");
        for (int n = 0; n <= 20; n++) {
            due("run(" + n + ") to RETURN", returning(0).run(n), Math.min(n, 2));
            due("run(" + n + ") to uncaught", throwing(0).run(n), Math.min(n, 3));
            due("run(" + n + ") to out of room", filling(0).run(n), Math.min(n, 13));
        }
        due("run(200) to RETURN", returning(0).run(200), 2);
        due("run(200) to uncaught", throwing(0).run(200), 3);
        due("run(200) to out of room", filling(0).run(200), 13);
    }

    private static void runEndedOrNotStarted() {
        CHECKS.sentence("promise 9", "Where it has ended or nothing was started, 0 steps.");
        ReadBarrierMachine[] ended = {returning(5), throwing(5), filling(5), Lines.machine(24, 1)};
        int[] states = {BY_RETURN, UNCAUGHT, OUT_OF_ROOM, NOTHING_STARTED};
        for (int i = 0; i < ended.length; i++) {
            ReadBarrierMachine x = ended[i];
            x.run(200);
            int place = x.number(3);
            int used = x.used();
            due("run(1)", x.run(1), 0);
            due("run(200)", x.run(200), 0);
            due("run(0)", x.run(0), 0);
            due("still refused", x.run(201), -1);
            due("still refused", x.run(-1), -1);
            due("state()", x.state(), states[i]);
            due("PLACE", x.number(3), place);
            due("used()", x.used(), used);
        }
    }

    private static void runMostSteps() {
        CHECKS.sentence("promise 9", "Does n steps (a machine that ends with step 199, 200, 201)");
        for (int extra = 0; extra <= 2; extra++) {
            // One step, 49 rounds of four, two steps to the end, and what is shown before it.
            ReadBarrierMachine x = Lines.started(50, 1, 49, Lines.constant(1, -1), Lines.ifZero(0, 7 - extra),
                    Lines.add(0, 0, 1), Lines.ifZero(2, 4), Lines.jump(1), Lines.show(0), Lines.show(0),
                    Lines.giveBack(0, 0));
            int steps = 199 + extra;
            due("run(200) of " + steps, x.run(200), Math.min(200, steps));
            due("state() of " + steps, x.state(), steps <= 200 ? BY_RETURN : NOT_ENDED);
            due("the rest of " + steps, x.run(200), Math.max(0, steps - 200));
            due("state() then", x.state(), BY_RETURN);
        }
    }

    private static void stateOfEnds() {
        CHECKS.sentence("promise 10", "0 if the machine has not ended, 1 if it ended by RETURN, 2 uncaught, "
                + "3 out of room");
        ReadBarrierMachine[] machines = {returning(5), throwing(5), filling(5)};
        int[] before = {1, 2, 12};
        int[] ends = {BY_RETURN, UNCAUGHT, OUT_OF_ROOM};
        for (int i = 0; i < machines.length; i++) {
            ReadBarrierMachine x = machines[i];
            due("started", x.state(), NOT_ENDED);
            x.run(before[i]);
            due("one step before the end", x.state(), NOT_ENDED);
            x.run(1);
            due("at the end", x.state(), ends[i]);
            x.run(1);
            due("after the end", x.state(), ends[i]);
            x.start(0, 5);
            due("started anew", x.state(), NOT_ENDED);
        }
    }

    private static void stateNothingStarted() {
        CHECKS.sentence("promise 10", "4 if nothing was started");
        ReadBarrierMachine x = Lines.machine(24, 1);
        due("new", x.state(), NOTHING_STARTED);
        int m = Lines.method(x, -1, Lines.giveBack(0, 0));
        due("written", x.state(), NOTHING_STARTED);
        x.run(5);
        due("run", x.state(), NOTHING_STARTED);
        due("refused", x.start(m + 1, 0), false);
        due("a start was refused", x.state(), NOTHING_STARTED);
        x.start(m, 0);
        due("started", x.state(), NOT_ENDED);
    }

    private static void resultNoneYet() {
        CHECKS.sentence("promise 11", "0 as long as there is none");
        due("nothing started", Lines.machine(24, 1).result(), 0);
        ReadBarrierMachine x = returning(77);
        due("started", x.result(), 0);
        x.run(1);
        due("one step before RETURN", x.result(), 0);
        x.run(1);
        due("after RETURN", x.result(), 77);
        x.start(0, 78);
        due("started anew", x.result(), 0);
        x = throwing(66);
        x.run(2);
        due("pending", x.result(), 0);
        x.run(1);
        due("uncaught", x.result(), 66);
    }

    private static void resultOfEnds() {
        CHECKS.sentence("promise 11", "RESULT");
        for (int value : new int[] {LOW, -1, 0, 1, HIGH}) {
            ReadBarrierMachine x = returning(value);
            x.run(9);
            due("of RETURN", x.result(), value);
            due("state()", x.state(), BY_RETURN);
            x = throwing(value);
            x.run(9);
            due("uncaught", x.result(), value);
            due("state()", x.state(), UNCAUGHT);
        }
    }

    private static void resultOutOfRoom() {
        CHECKS.sentence("promise 11", "and when out of room");
        ReadBarrierMachine x = filling(7);
        int back = Lines.method(x, -1, Lines.giveBack(0, 0));
        x.start(back, 7);
        x.run(1);
        due("a result before", x.result(), 7);
        x.start(0, 7);
        x.run(200);
        due("state()", x.state(), OUT_OF_ROOM);
        due("result()", x.result(), 0);
        x.run(200);
        due("result() later", x.result(), 0);
    }

    private static ReadBarrierMachine showing() {
        ReadBarrierMachine x = Lines.started(50, 1, 0, Lines.constant(1, 3), Lines.add(0, 0, 1), Lines.show(0),
                Lines.jump(1));
        x.run(2);
        return x;
    }

    private static void shownFromTheLatest() {
        CHECKS.sentence("promise 12", "What was shown k-th counted from the latest (0), k at most 7");
        ReadBarrierMachine x = showing();
        for (int count = 8; count <= 40; count++) {
            x.run(count == 8 ? 24 : 3);
            for (int k = 0; k <= 7; k++) {
                due("shown(" + k + ") of " + count, x.shown(k), 3 * (count - k));
            }
            due("shown(8) of " + count, x.shown(8), 0);
        }
    }

    private static void shownNotSoMuch() {
        CHECKS.sentence("promise 12", "0 if not so much was shown since the start");
        due("nothing started", Lines.machine(50, 1).shown(0), 0);
        ReadBarrierMachine x = showing();
        for (int count = 0; count <= 8; count++) {
            for (int k = 0; k <= 7; k++) {
                due("shown(" + k + ") of " + count, x.shown(k), k < count ? 3 * (count - k) : 0);
            }
            x.run(3);
        }
        x.start(0, 0);
        for (int k = 0; k <= 7; k++) {
            due("shown(" + k + ") after the start", x.shown(k), 0);
        }
        x.run(3);
        due("shown(0) since the start", x.shown(0), 3);
        due("shown(1) is from before the start", x.shown(1), 0);
    }

    private static void shownOutside() {
        CHECKS.sentence("promise 12", "or k is not 0 .. 7");
        ReadBarrierMachine x = showing();
        x.run(90);
        for (int k : new int[] {LOW, -9, -8, -3, -2, 8, 9, 15, 16, HIGH}) {
            due("shown(" + k + ")", x.shown(k), 0);
        }
        due("shown(7)", x.shown(7), 3 * 23);
        due("shown(0)", x.shown(0), 3 * 30);
    }

    private static void shownCount() {
        CHECKS.sentence("promise 12", "k = -1: how often something was shown since the start");
        due("nothing started", Lines.machine(50, 1).shown(-1), 0);
        ReadBarrierMachine x = showing();
        for (int count = 0; count <= 20; count++) {
            due("shown(-1)", x.shown(-1), count);
            x.run(3);
        }
        x.run(200);
        due("many", x.shown(-1), 21 + 67);
        x.start(0, 0);
        due("since the start", x.shown(-1), 0);
    }

    /** Each round makes an object of three cells: five fill the room of 24 cells. */
    private static ReadBarrierMachine making(int pace) {
        return Lines.started(24, pace, 0, Lines.make(0, 1), Lines.jump(0));
    }

    private static void workIsTheGreatest() {
        CHECKS.sentence("promise 13", "The greatest work of a step");
        ReadBarrierMachine x = making(2);
        x.run(10);
        due("no flip", x.work(), 0);
        x.run(1);
        due("the flip moves the frame", x.work(), 9);
        x.run(1);
        due("JUMP", x.work(), 0);
        x.run(1);
        due("six cells", x.work(), 6);
        x.run(2);
        due("the three that are left, then none", x.work(), 3);
        x.start(0, 0);
        x.run(17);
        due("the greatest of 9, 6, 3: not the latest, not the sum", x.work(), 9);
        x.start(0, 0);
        x.run(12);
        x.run(5);
        due("the greatest of 6, 3", x.work(), 6);
        x.start(0, 0);
        x.run(14);
        x.run(9);
        due("the greatest of 3, 0, 9", x.work(), 9);
    }

    private static void workOfLatestRun() {
        CHECKS.sentence("promise 13", "in the latest run that was not refused");
        ReadBarrierMachine x = making(2);
        x.run(11);
        due("work()", x.work(), 9);
        for (int n : new int[] {-1, 201, LOW, HIGH}) {
            due("run(" + n + ")", x.run(n), -1);
            due("work() after a refused run", x.work(), 9);
        }
        x.run(1);
        due("a later run", x.work(), 0);
    }

    private static void workNoSteps() {
        CHECKS.sentence("promise 13", "0 if it had no steps");
        ReadBarrierMachine x = making(2);
        x.run(11);
        due("work()", x.work(), 9);
        due("run(0)", x.run(0), 0);
        due("work()", x.work(), 0);
        x = filling(0);
        x.run(12);
        x.run(1);
        due("the step that ends it has its work", x.work(), 7);
        due("ended", x.run(5), 0);
        due("work() of a run after the end", x.work(), 0);
        x = Lines.machine(24, 1);
        due("nothing started", x.work(), 0);
        x.run(5);
        due("nothing started, run", x.work(), 0);
    }

    private static void workSinceTheStart() {
        CHECKS.sentence("promise 13", "or there was none since the start");
        ReadBarrierMachine x = making(2);
        x.run(11);
        due("refused", x.start(1, 0), false);
        due("a refused start", x.work(), 9);
        x.start(0, 0);
        due("work()", x.work(), 0);
        due("refused", x.run(-1), -1);
        due("work() after a refused run", x.work(), 0);
    }

    private static void usedCells() {
        CHECKS.sentence("terms", "USED is the cells of all new and all moved ones.");
        ReadBarrierMachine x = Lines.started(40, 1, 0, Lines.make(0, 0), Lines.make(0, 1), Lines.make(0, 2),
                Lines.clear(0), Lines.make(1, 2), Lines.make(1, 2), Lines.make(1, 0), Lines.make(1, 1),
                Lines.make(1, 2), Lines.giveBack(0, 0));
        int[] due = {9, 10, 13, 20, 20, 27, 34, 35, 38, 16, 16, 16};
        for (int i = 0; i < due.length; i++) {
            due("after " + i + " steps", x.used(), due[i]);
            x.run(1);
        }
        x.start(0, 0);
        due("after start", x.used(), 9);
    }

    private static void usedNothingStarted() {
        CHECKS.sentence("promise 14", "0 if nothing was started");
        ReadBarrierMachine x = Lines.machine(24, 1);
        int m = Lines.method(x, -1, Lines.giveBack(0, 0));
        due("written", x.used(), 0);
        x.run(5);
        due("run", x.used(), 0);
        x.start(m, 0);
        due("started", x.used(), 9);
        x.run(5);
        due("ended", x.used(), 9);
    }

    private static void greyCells() {
        CHECKS.sentence("promise 15", "How many cells of the row are not scanned.");
        ReadBarrierMachine x = Lines.machine(24, 1);
        due("nothing started", x.grey(), 0);
        int m = Lines.method(x, -1, Lines.make(0, 2), Lines.make(1, 2), Lines.make(2, 0), Lines.clear(1),
                Lines.make(1, 0), Lines.copy(2, 0), Lines.make(1, 0), Lines.make(1, 1), Lines.make(1, 0),
                Lines.make(1, 0), Lines.make(1, 0), Lines.jump(10));
        x.start(m, 0);
        int[] due = {0, 0, 0, 0, 0, 9, 16, 15, 12, 11, 10, 9};
        for (int i = 0; i < due.length; i++) {
            due("after " + i + " steps", x.grey(), due[i]);
            x.run(1);
        }
        x.start(m, 0);
        due("after start", x.grey(), 0);
        x = making(3);
        x.run(11);
        due("the frame", x.grey(), 9);
        x.run(2);
        due("the row is done", x.grey(), 0);
    }

    private static void flipsSinceTheStart() {
        CHECKS.sentence("promise 16", "How many flips there were since the start.");
        due("nothing started", Lines.machine(24, 8).flips(), 0);
        ReadBarrierMachine x = making(8);
        // Five makings fill the room; the sixth flips and leaves room for four more.
        for (int made = 0; made <= 40; made++) {
            due("flips() after " + made, x.flips(), made == 0 ? 0 : (made - 1) / 5);
            x.run(2);
        }
        due("refused", x.start(1, 0), false);
        due("after a refused start", x.flips(), 8);
        x.start(0, 0);
        due("after start", x.flips(), 0);
        x.run(12);
        due("since the start", x.flips(), 1);
    }

    private static void depthOfFrames() {
        CHECKS.sentence("promise 17", "How many frames there are from the current one on by LINK");
        ReadBarrierMachine x = Lines.machine(120, 1);
        int m = Lines.method(x, -1, Lines.constant(1, -1), Lines.ifZero(0, 5), Lines.add(0, 0, 1),
                Lines.make(0, 0), Lines.call(0, 0, 0), Lines.giveBack(0, 0));
        x.bind(0, 0, m);
        x.start(m, 6);
        for (int depth = 1; depth <= 7; depth++) {
            due("going down", x.depth(), depth);
            x.run(depth < 7 ? 5 : 2);
        }
        for (int depth = 7; depth >= 1; depth--) {
            due("going up", x.depth(), depth);
            x.run(1);
        }
        due("at the end", x.depth(), 1);
        due("state()", x.state(), BY_RETURN);
        x.start(m, 7);
        x.run(200);
        due("state() where the frames go in", x.state(), BY_RETURN);
        x.start(m, 20);
        x.run(200);
        due("state() where they do not", x.state(), OUT_OF_ROOM);
        // Twelve fill the room and the next call flips; from then on each call takes 20 cells, its
        // own 10 and 10 that are moved: 19 are used with 13 frames, 119 with 18.
        due("depth() out of room", x.depth(), 18);
    }

    private static void depthNothingStarted() {
        CHECKS.sentence("promise 17", "0 if nothing was started");
        ReadBarrierMachine x = Lines.machine(24, 1);
        int m = Lines.method(x, -1, Lines.giveBack(0, 0));
        due("written", x.depth(), 0);
        x.start(m, 0);
        due("started", x.depth(), 1);
        x.run(1);
        due("ended", x.depth(), 1);
    }

    private static void liveCells() {
        CHECKS.sentence("promise 18", "The cells of all objects that can be reached from the current frame, "
                + "itself included, by refs");
        ReadBarrierMachine x = Lines.machine(60, 1);
        int m = Lines.method(x, -1, Lines.make(0, 2), Lines.make(1, 1), Lines.put(0, 1, 0),
                Lines.put(0, 1, 2), Lines.put(1, 0, 0), Lines.copy(2, 1), Lines.clear(1), Lines.clear(0),
                Lines.clear(2), Lines.make(0, 0), Lines.call(0, 0, 0), Lines.giveBack(0, 0));
        x.bind(0, 0, Lines.method(x, -1, Lines.make(1, 1), Lines.giveBack(1, 0)));
        x.start(m, 0);
        // Held twice, held in a ring, held by one alone, by none; then a call and its caller.
        int[] due = {9, 16, 19, 19, 19, 19, 19, 19, 19, 9, 10, 19, 22, 13, 13};
        for (int i = 0; i < due.length; i++) {
            due("after " + i + " steps", x.live(), due[i]);
            due("asked again", x.live(), due[i]);
            x.run(1);
        }
        due("state()", x.state(), BY_RETURN);
    }

    private static void liveOldOnes() {
        CHECKS.sentence("promise 18", "all objects that can be reached (old ones, too)");
        ReadBarrierMachine x = Lines.started(24, 1, 0, Lines.make(0, 2), Lines.make(1, 2), Lines.put(0, 1, 1),
                Lines.make(2, 1), Lines.clear(1), Lines.clear(0), Lines.jump(6));
        x.run(4);
        due("flips()", x.flips(), 1);
        due("used()", x.used(), 12);
        due("more than the room has", x.live(), 26);
        due("used() as before", x.used(), 12);
        x.run(1);
        due("held by an old one alone", x.live(), 26);
        x.run(1);
        due("held by none", x.live(), 12);
    }

    private static void liveNothingStarted() {
        CHECKS.sentence("promise 18", "0 if nothing was started");
        ReadBarrierMachine x = Lines.machine(24, 1);
        int m = Lines.method(x, -1, Lines.giveBack(0, 0));
        due("written", x.live(), 0);
        x.start(m, 0);
        due("started", x.live(), 9);
        x.run(1);
        due("ended", x.live(), 9);
    }

    /** R0 of kind 2 holds R1 by its ref 2; R1 of kind 1 holds R0 by its ref 0; R2 is of kind 0. */
    private static ReadBarrierMachine holding() {
        ReadBarrierMachine x = Lines.started(24, 1, 0, Lines.make(0, 2), Lines.make(1, 1), Lines.put(0, 1, 2),
                Lines.put(1, 0, 0), Lines.make(2, 0), Lines.make(2, 0), Lines.make(2, 0), Lines.make(2, 0),
                Lines.make(2, 0), Lines.make(2, 0), Lines.jump(10));
        x.run(5);
        return x;
    }

    private static void kindAtRegister() {
        CHECKS.sentence("promise 19", "x is not 0 .. 2");
        ReadBarrierMachine x = holding();
        // In the second round R0 and R1 are old.
        for (int round = 0; round < 2; round++) {
            int[] due = {2, 1, 0};
            for (int r = 0; r <= 2; r++) {
                due("kindAt(" + r + ", -1)", x.kindAt(r, -1), due[r]);
            }
            for (int r : new int[] {LOW, -2, -1, 3, 4, HIGH}) {
                due("kindAt(" + r + ", -1)", x.kindAt(r, -1), -1);
                due("kindAt(" + r + ", 0)", x.kindAt(r, 0), -1);
            }
            x.run(5);
            due("flips()", x.flips(), 1);
        }
        due("nothing was moved", x.used(), 10);
        CHECKS.sentence("promise 19", "x is not 0 .. 2 (LINK is none of them)");
        x = Lines.machine(60, 1);
        x.bind(0, 0, Lines.method(x, -1, Lines.giveBack(0, 0)));
        x.start(Lines.method(x, -1, Lines.make(0, 0), Lines.call(0, 0, 0), Lines.giveBack(0, 0)), 0);
        x.run(2);
        due("depth()", x.depth(), 2);
        due("kindAt(3, -1)", x.kindAt(3, -1), -1);
    }

    private static void kindAtRef() {
        CHECKS.sentence("promise 19", "or its kind has no ref f");
        ReadBarrierMachine x = holding();
        for (int round = 0; round < 2; round++) {
            due("the last ref of three", x.kindAt(0, 2), 1);
            due("the only ref", x.kindAt(1, 0), 2);
            due("one beyond three", x.kindAt(0, 3), -1);
            due("one beyond one", x.kindAt(1, 1), -1);
            due("one beyond none", x.kindAt(2, 0), -1);
            for (int f : new int[] {LOW, -3, -2, 3, 4, 7, HIGH}) {
                for (int r = 0; r <= 2; r++) {
                    due("kindAt(" + r + ", " + f + ")", x.kindAt(r, f), -1);
                }
            }
            x.run(5);
            due("flips()", x.flips(), 1);
        }
        due("nothing was moved", x.used(), 10);
    }

    private static void kindAtNone() {
        CHECKS.sentence("promise 19", "NONE is there");
        ReadBarrierMachine x = Lines.started(24, 1, 0, Lines.make(0, 2), Lines.put(0, 0, 1), Lines.clear(0),
                Lines.jump(2));
        due("in R0", x.kindAt(0, -1), -1);
        due("no ref of NONE", x.kindAt(0, 0), -1);
        x.run(2);
        due("in R0", x.kindAt(0, -1), 2);
        due("in ref 0", x.kindAt(0, 0), -1);
        due("in ref 1", x.kindAt(0, 1), 2);
        due("in ref 2", x.kindAt(0, 2), -1);
        due("in R1", x.kindAt(1, -1), -1);
        x.run(1);
        due("in R0 when it is clear", x.kindAt(0, -1), -1);
        due("no ref then", x.kindAt(0, 1), -1);
    }

    private static void kindAtNothingStarted() {
        CHECKS.sentence("promise 19", "nothing was started");
        ReadBarrierMachine x = Lines.machine(24, 1);
        Lines.method(x, -1, Lines.make(0, 0), Lines.giveBack(0, 0));
        for (int r = -1; r <= 3; r++) {
            for (int f = -2; f <= 3; f++) {
                due("kindAt(" + r + ", " + f + ")", x.kindAt(r, f), -1);
            }
        }
        x.start(0, 0);
        x.run(1);
        due("started", x.kindAt(0, -1), 0);
    }

    private static void numberOfRegisters() {
        CHECKS.sentence("promise 20", "Ix of the current frame");
        ReadBarrierMachine x = Lines.machine(60, 1);
        x.bind(0, 0, Lines.method(x, -1, Lines.constant(1, 31), Lines.giveBack(0, 1)));
        x.start(Lines.method(x, -1, Lines.make(0, 0), Lines.constant(1, 21), Lines.constant(2, 22),
                Lines.call(0, 0, 0), Lines.giveBack(0, 0)), 20);
        int[][] due = {
            {20, 0, 0}, {20, 0, 0}, {20, 21, 0}, {20, 21, 22}, {20, 0, 0}, {20, 31, 0}, {20, 21, 31}, {20, 21, 31}
        };
        for (int i = 0; i < due.length; i++) {
            for (int r = 0; r <= 2; r++) {
                due("number(" + r + ") after " + i, x.number(r), due[i][r]);
            }
            x.run(1);
        }
        due("state()", x.state(), BY_RETURN);
    }

    private static void numberIsPlace() {
        CHECKS.sentence("promise 20", "if x is 3, its PLACE");
        ReadBarrierMachine x = Lines.started(50, 1, 7, Lines.show(0), Lines.jump(11), Lines.show(0), Lines.show(0),
                Lines.show(0), Lines.show(0), Lines.show(0), Lines.show(0), Lines.show(0), Lines.show(0),
                Lines.show(0), Lines.raise(0));
        int[] due = {0, 1, 11, 12, 12, 12};
        for (int i = 0; i < due.length; i++) {
            due("number(3) after " + i, x.number(3), due[i]);
            x.run(1);
        }
        due("uncaught", x.state(), UNCAUGHT);
    }

    private static void numberOutside() {
        CHECKS.sentence("promise 20", "0 if x is not 0 .. 3 or nothing was started");
        ReadBarrierMachine x = Lines.machine(50, 1);
        int m = Lines.method(x, -1, Lines.constant(1, 1), Lines.constant(2, 2), Lines.constant(0, 9),
                Lines.giveBack(0, 0));
        for (int r = -1; r <= 4; r++) {
            due("number(" + r + "), nothing started", x.number(r), 0);
        }
        x.start(m, 5);
        due("number(0)", x.number(0), 5);
        x.run(3);
        for (int r : new int[] {LOW, -2, -1, 4, 5, HIGH}) {
            due("number(" + r + ")", x.number(r), 0);
        }
        due("number(0)", x.number(0), 9);
        due("number(2)", x.number(2), 2);
        due("number(3)", x.number(3), 3);
    }

    private static void useOfAnObject() {
        CHECKS.sentence("what it is", "An object is used for at most 512 calls after it has been made");
        ReadBarrierMachine x = new ReadBarrierMachine(24, 8);
        x.kind(-1, 0, 3);
        x.method(-1);
        x.code(2, 0, 0, 0);
        x.code(15, 0, 0, 0);
        x.code(9, 0, 0, 0);
        x.seal();
        x.start(0, 6);
        for (int call = 8; call <= 509; call++) {
            due("call " + call, x.run(200), 200);
        }
        // 502 runs of 200 steps: three steps a round, of which the second shows.
        due("call 510", x.flips() > 10000, true);
        due("call 511", x.shown(7), 6);
        due("call 512", x.shown(-1), (502 * 200 + 1) / 3);
    }
}
