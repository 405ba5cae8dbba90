/** Instructions by their names, methods written out of them, and a machine to write them for. */
final class Lines {
    private static final int NOT_NAMED = 77;

    private Lines() {
    }

    static int[] constant(int x, int z) {
        return new int[] {0, x, NOT_NAMED, z};
    }

    static int[] add(int x, int y, int z) {
        return new int[] {1, x, y, z};
    }

    static int[] make(int x, int kind) {
        return new int[] {2, x, NOT_NAMED, kind};
    }

    static int[] copy(int x, int y) {
        return new int[] {3, x, y, NOT_NAMED};
    }

    static int[] clear(int x) {
        return new int[] {4, x, NOT_NAMED, NOT_NAMED};
    }

    static int[] get(int x, int y, int z) {
        return new int[] {5, x, y, z};
    }

    static int[] put(int x, int y, int z) {
        return new int[] {6, x, y, z};
    }

    static int[] load(int x, int y, int z) {
        return new int[] {7, x, y, z};
    }

    static int[] store(int x, int y, int z) {
        return new int[] {8, x, y, z};
    }

    static int[] jump(int z) {
        return new int[] {9, NOT_NAMED, NOT_NAMED, z};
    }

    static int[] ifZero(int x, int z) {
        return new int[] {10, x, NOT_NAMED, z};
    }

    static int[] ifVoid(int x, int z) {
        return new int[] {11, x, NOT_NAMED, z};
    }

    static int[] call(int x, int y, int selector) {
        return new int[] {12, x, y, selector};
    }

    static int[] giveBack(int x, int y) {
        return new int[] {13, x, y, NOT_NAMED};
    }

    static int[] raise(int x) {
        return new int[] {14, x, NOT_NAMED, NOT_NAMED};
    }

    static int[] show(int x) {
        return new int[] {15, x, NOT_NAMED, NOT_NAMED};
    }

    /** A machine with the kinds 0 (no ref, no int), 1 (one ref, one int) and 2 (three and three). */
    static ReadBarrierMachine machine(int cells, int pace) {
        ReadBarrierMachine x = new ReadBarrierMachine(cells, pace);
        x.kind(-1, 0, 0);
        x.kind(-1, 1, 1);
        x.kind(-1, 3, 3);
        return x;
    }

    /** A machine whose kinds 0, 1, .. have objects of these sizes (1 to 7), with refs from 2 on. */
    static ReadBarrierMachine sized(int cells, int pace, int... sizes) {
        ReadBarrierMachine x = new ReadBarrierMachine(cells, pace);
        for (int size : sizes) {
            x.kind(-1, size / 2, size - 1 - size / 2);
        }
        return x;
    }

    /** The number of the finished method; a refusal on the way is a fault of the test. */
    static int method(ReadBarrierMachine machine, int handler, int[]... lines) {
        int m = machine.method(handler);
        boolean taken = m >= 0;
        for (int[] line : lines) {
            taken &= machine.code(line[0], line[1], line[2], line[3]) == 0;
        }
        taken &= machine.seal();
        if (!taken) {
            throw new IllegalStateException("the test's own method was refused");
        }
        return m;
    }

    /** A machine as above, started with a method of these lines, which has no handler. */
    static ReadBarrierMachine started(int cells, int pace, int value, int[]... lines) {
        ReadBarrierMachine x = machine(cells, pace);
        x.start(method(x, -1, lines), value);
        return x;
    }

    static int[][] joined(int[][] first, int[]... then) {
        int[][] all = java.util.Arrays.copyOf(first, first.length + then.length);
        System.arraycopy(then, 0, all, first.length, then.length);
        return all;
    }
}
