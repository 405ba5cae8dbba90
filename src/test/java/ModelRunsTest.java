import java.util.Arrays;

/**
 * Many made-up runs of calls, each compared answer by answer with PlainModel. The numbers come
 * from a fixed sequence, so that every run of the test asks the same.
 */
public final class ModelRunsTest {
    private static final int RUNS = 20000;
    private static final int MOST_CALLS = 512;
    // By instruction, how often it is chosen: enough makings that room runs short.
    private static final int[] WEIGHTS = {3, 3, 12, 6, 2, 5, 8, 4, 4, 2, 2, 3, 8, 2, 1, 3};

    private static long seed = 20261115L;

    private final Checks checks;
    private ReadBarrierMachine machine;
    private PlainModel model;
    private int calls;
    private int length;
    private int written;
    private final int[] ends = new int[5];
    private final int[] causes = new int[PlainModel.Cause.values().length];
    private int flips;
    private int deepest;

    private ModelRunsTest(Checks checks) {
        this.checks = checks;
    }

    public static void main(String[] args) {
        Checks checks = new Checks();
        ModelRunsTest test = new ModelRunsTest(checks);
        for (int run = 0; run < RUNS && checks.wrong() == 0; run++) {
            checks.about("run " + run);
            test.oneRun();
        }
        test.checkThatEnoughWasMet();
        checks.end();
    }

    /** Runs that never get into trouble would compare nothing of weight. */
    private void checkThatEnoughWasMet() {
        System.out.println("ends " + Arrays.toString(ends) + ", causes "
                + Arrays.toString(causes) + ", flips " + flips + ", deepest " + deepest);
        checks.about("what the runs met");
        for (int end = 1; end <= 3; end++) {
            checks.due("often enough: end " + end, ends[end] > RUNS / 10, true);
        }
        for (PlainModel.Cause cause : PlainModel.Cause.values()) {
            // A frame and any one object go into the least room: this cause can't come about.
            if (cause != PlainModel.Cause.NO_ROOM_AFTER_FLIP) {
                checks.due("often enough: " + cause, causes[cause.ordinal()] > RUNS / 200, true);
            }
        }
        checks.due("often enough: flips", flips > RUNS, true);
        checks.due("deep enough", deepest >= 10, true);
    }

    /** A number from 0 up to but without the bound. */
    private static int pick(int bound) {
        seed = seed * 6364136223846793005L + 1442695040888963407L;
        return (int) ((seed >>> 33) % bound);
    }

    private static int between(int low, int high) {
        return low + pick(high - low + 1);
    }

    private static boolean oneIn(int n) {
        return pick(n) == 0;
    }

    private void oneRun() {
        int cells = oneIn(3) ? between(10, 140) : between(24, 70);
        int pace = oneIn(3) ? between(-1, 10) : between(1, 3);
        machine = new ReadBarrierMachine(cells, pace);
        model = new PlainModel(cells, pace);
        calls = 0;
        if (oneIn(4)) {
            askAll();
        }
        int kinds = between(1, 4);
        for (int i = 0; i < kinds; i++) {
            loadKind();
        }
        int methods = between(1, 6);
        for (int i = 0; i < methods; i++) {
            writeMethod();
        }
        for (int i = 0; i < 14; i++) {
            bindOne();
        }
        startOne();
        while (calls < MOST_CALLS - 90 && checks.wrong() == 0) {
            goOn();
        }
        if (model.state() == 0 && oneIn(2)) {
            runSteps(200);
        }
        askAll();
    }

    private void goOn() {
        int choice = pick(100);
        if (choice < 3) {
            loadKind();
        } else if (choice < 5) {
            writeMethod();
        } else if (choice < 10) {
            bindOne();
        } else if (choice < 13 || (model.state() != 0 && choice < 50)) {
            startOne();
        } else if (choice < 15) {
            runSteps(oneIn(2) ? between(-3, 0) : between(199, 203));
        } else {
            runSteps(oneIn(4) ? between(5, 60) : between(1, 4));
        }
        askSome();
    }

    private void loadKind() {
        int parent = oneIn(2) ? -1 : between(-2, 4);
        int refs = oneIn(6) ? between(-1, 4) : between(1, 3);
        int ints = oneIn(6) ? between(-1, 4) : between(0, 2);
        due("kind(" + parent + ", " + refs + ", " + ints + ")",
                machine.kind(parent, refs, ints), model.kind(parent, refs, ints));
    }

    private void bindOne() {
        int kind = oneIn(8) ? between(-1, 4) : between(0, 3);
        int selector = oneIn(8) ? between(-1, 4) : between(0, 3);
        int m = oneIn(8) ? between(-1, 6) : between(0, 5);
        due("bind(" + kind + ", " + selector + ", " + m + ")",
                machine.bind(kind, selector, m), model.bind(kind, selector, m));
    }

    private void startOne() {
        int m = oneIn(10) ? between(-1, 6) : between(0, 2);
        int value = between(-2, 6);
        due("start(" + m + ", " + value + ")", machine.start(m, value), model.start(m, value));
    }

    private void runSteps(int n) {
        int stateBefore = model.state();
        int flipsBefore = model.flips();
        due("run(" + n + ")", machine.run(n), model.run(n));
        flips += model.flips() - flipsBefore;
        deepest = Math.max(deepest, model.depth());
        if (model.state() != stateBefore) {
            ends[model.state()]++;
            if (model.cause != null) {
                causes[model.cause.ordinal()]++;
            }
        }
    }

    private void writeMethod() {
        if (oneIn(12)) {
            writeLine(between(0, 15));
            sealOne();
            dropOne();
        }
        length = oneIn(10) ? between(0, 14) : between(5, 12);
        written = 0;
        int handler = oneIn(8) ? between(-2, 12) : oneIn(2) ? pick(Math.max(1, length)) : -1;
        due("method(" + handler + ")", machine.method(handler), model.method(handler));
        while (written < length - 1) {
            writeSome();
        }
        if (length > 0) {
            int[] last = {9, 9, 9, 13, 13, 14, oneIn(5) ? 0 : 9};
            writeLine(last[pick(last.length)]);
        }
        sealOne();
        // What could not be sealed gives way to the next one, or stays open for a while.
        if (!oneIn(6)) {
            dropOne();
        }
    }

    /** Single instructions by chance seldom build much: chains and calls come in one piece. */
    private void writeSome() {
        int r = pick(3);
        int q = (r + between(1, 2)) % 3;
        int left = length - 1 - written;
        if (left >= 3 && oneIn(4)) {
            write(2, r, 0, pick(2));
            write(6, r, q, 0);
            write(3, q, r, 0);
        } else if (left >= 2 && oneIn(4)) {
            write(2, r, 0, pick(2));
            write(12, r, q, pick(4));
        } else if (left >= 2 && oneIn(5)) {
            write(5, r, q, 0);
            write(6, q, r, pick(2));
        } else {
            writeLine(chooseInstruction());
        }
    }

    private static int chooseInstruction() {
        int left = pick(Arrays.stream(WEIGHTS).sum());
        int op = 0;
        while (left >= WEIGHTS[op]) {
            left -= WEIGHTS[op];
            op++;
        }
        return op;
    }

    private void writeLine(int op) {
        int chosen = oneIn(60) ? between(-2, 18) : op;
        int x = oneIn(60) ? between(-1, 3) : between(0, 2);
        int y = oneIn(30) ? between(-1, 3) : between(0, 2);
        write(chosen, x, y, chooseZ(chosen));
    }

    private void write(int op, int x, int y, int z) {
        written++;
        due("code(" + op + ", " + x + ", " + y + ", " + z + ")",
                machine.code(op, x, y, z), model.code(op, x, y, z));
    }

    private int chooseZ(int op) {
        if (oneIn(60)) {
            return between(-1, 13);
        }
        switch (op) {
            case 0: return oneIn(6) ? pick(1 << 30) * 5 : between(-2, 2);
            case 2: return between(0, oneIn(4) ? 3 : 1);
            case 12: return between(0, 3);
            case 9: return oneIn(2) ? 0 : pick(Math.max(1, length));
            case 10: case 11: return pick(Math.max(1, length));
            default: return oneIn(4) ? between(1, 2) : 0;
        }
    }

    private void sealOne() {
        due("seal()", machine.seal(), model.seal());
    }

    private void dropOne() {
        due("drop()", machine.drop(), model.drop());
    }

    private void askSome() {
        due("state()", machine.state(), model.state());
        due("used()", machine.used(), model.used());
        due("grey()", machine.grey(), model.grey());
        due("work()", machine.work(), model.work());
        due("live()", machine.live(), model.live());
        switch (pick(6)) {
            case 0: due("depth()", machine.depth(), model.depth()); break;
            case 1: due("flips()", machine.flips(), model.flips()); break;
            case 2: due("result()", machine.result(), model.result()); break;
            case 3: askNumber(between(-1, 4)); break;
            case 4: askShown(between(-2, 8)); break;
            default: askKind(between(-1, 3), between(-2, 3)); break;
        }
    }

    private void askAll() {
        askSome();
        due("depth()", machine.depth(), model.depth());
        due("flips()", machine.flips(), model.flips());
        due("result()", machine.result(), model.result());
        for (int x = -1; x <= 4; x++) {
            askNumber(x);
        }
        for (int k = -2; k <= 8; k++) {
            askShown(k);
        }
        for (int x = -1; x <= 3; x++) {
            for (int f = -2; f <= 3; f++) {
                askKind(x, f);
            }
        }
    }

    private void askNumber(int x) {
        due("number(" + x + ")", machine.number(x), model.number(x));
    }

    private void askShown(int k) {
        due("shown(" + k + ")", machine.shown(k), model.shown(k));
    }

    private void askKind(int x, int f) {
        due("kindAt(" + x + ", " + f + ")", machine.kindAt(x, f), model.kindAt(x, f));
    }

    private void due(String call, int got, int want) {
        calls++;
        checks.due("call " + calls + ", " + call, got, want);
    }

    private void due(String call, boolean got, boolean want) {
        due(call, got ? 1 : 0, want ? 1 : 0);
    }
}
