import java.util.ArrayList;
import java.util.Collections;
import java.util.IdentityHashMap;
import java.util.List;
import java.util.Set;

/**
 * The document read as directly as can be, for comparison: objects are Java objects that keep
 * their identity, nothing is copied, and running out of room is a Java exception.
 */
final class PlainModel {
    enum Age { NEW, MOVED, OLD }

    /** Why room ran out, so that a test can tell that it met every way. */
    enum Cause { MOVING_IN_SCAN, MOVING_IN_READ, ROW_NOT_DONE, NO_ROOM_AFTER_FLIP }

    private static final class OutOfRoom extends Exception {
        private static final long serialVersionUID = 1L;
    }

    private static final class Thing {
        final Kind kind;
        final Method method;
        final Thing[] refs;
        final int[] ints;
        Age age = Age.NEW;

        Thing(Kind kind, Method method, int refs, int ints) {
            this.kind = kind;
            this.method = method;
            this.refs = new Thing[refs];
            this.ints = new int[ints];
        }

        int size() {
            return 1 + refs.length + ints.length;
        }
    }

    private static final class Kind {
        int number;
        int refs;
        int ints;
        final Method[] table = new Method[4];
    }

    private static final class Method {
        int handler;
        final List<int[]> code = new ArrayList<>();
    }

    private final int limit;
    private final int pace;
    private final List<Kind> kinds = new ArrayList<>();
    private final List<Method> methods = new ArrayList<>();
    private Method open;

    private final List<Thing> fresh = new ArrayList<>();
    private final List<Thing> row = new ArrayList<>();
    private int scanned;
    private Thing current;
    private Integer pending;
    private final List<Integer> shown = new ArrayList<>();
    private int state = 4;
    private int result;
    private int flips;
    private int stepWork;
    private int work;
    private boolean scanning;
    Cause cause;

    PlainModel(int cells, int pace) {
        this.limit = cells < 24 ? 24 : cells > 120 ? 120 : cells;
        this.pace = pace < 1 ? 1 : pace > 8 ? 8 : pace;
    }

    int kind(int parent, int refs, int ints) {
        if (kinds.size() == 4 || parent < -1 || parent >= kinds.size()) {
            return -1;
        }
        if (refs < 0 || refs > 3 || ints < 0 || ints > 3) {
            return -1;
        }
        Kind made = new Kind();
        if (parent != -1) {
            Kind above = kinds.get(parent);
            if (refs < above.refs || ints < above.ints) {
                return -1;
            }
            System.arraycopy(above.table, 0, made.table, 0, 4);
        }
        made.number = kinds.size();
        made.refs = refs;
        made.ints = ints;
        kinds.add(made);
        return made.number;
    }

    boolean bind(int kind, int selector, int m) {
        if (kind < 0 || kind >= kinds.size() || selector < 0 || selector > 3) {
            return false;
        }
        if (m < 0 || m >= methods.size()) {
            return false;
        }
        kinds.get(kind).table[selector] = methods.get(m);
        return true;
    }

    int method(int handler) {
        if (open != null || methods.size() == 6 || handler < -1 || handler > 11) {
            return -1;
        }
        open = new Method();
        open.handler = handler;
        return methods.size();
    }

    int code(int op, int x, int y, int z) {
        if (open == null) {
            return 1;
        }
        if (open.code.size() == 12) {
            return 2;
        }
        if (op < 0 || op > 15) {
            return 3;
        }
        if (!operandsFit(op, x, y, z)) {
            return 4;
        }
        open.code.add(new int[] {op, x, y, z});
        return 0;
    }

    private boolean operandsFit(int op, int x, int y, int z) {
        boolean xFits = x >= 0 && x <= 2;
        boolean yFits = y >= 0 && y <= 2;
        switch (op) {
            case 0: case 4: case 14: case 15:
                return xFits;
            case 1: case 5: case 6: case 7: case 8:
                return xFits && yFits && z >= 0 && z <= 2;
            case 2:
                return xFits && z >= 0 && z < kinds.size();
            case 3: case 13:
                return xFits && yFits;
            case 9:
                return z >= 0 && z <= 11;
            case 10: case 11:
                return xFits && z >= 0 && z <= 11;
            default:
                return xFits && yFits && z >= 0 && z <= 3;
        }
    }

    boolean seal() {
        if (open == null || open.code.isEmpty()) {
            return false;
        }
        int last = open.code.get(open.code.size() - 1)[0];
        if (last != 9 && last != 13 && last != 14) {
            return false;
        }
        if (open.handler >= open.code.size()) {
            return false;
        }
        for (int[] line : open.code) {
            if (line[0] >= 9 && line[0] <= 11 && line[3] >= open.code.size()) {
                return false;
            }
        }
        methods.add(open);
        open = null;
        return true;
    }

    boolean drop() {
        if (open == null) {
            return false;
        }
        open = null;
        return true;
    }

    boolean start(int m, int value) {
        if (m < 0 || m >= methods.size()) {
            return false;
        }
        fresh.clear();
        row.clear();
        scanned = 0;
        shown.clear();
        pending = null;
        cause = null;
        state = 0;
        result = 0;
        flips = 0;
        work = 0;
        current = new Thing(null, methods.get(m), 4, 4);
        current.ints[0] = value;
        fresh.add(current);
        return true;
    }

    int run(int n) {
        if (n < 0 || n > 200) {
            return -1;
        }
        work = 0;
        int done = 0;
        while (done < n && state == 0) {
            stepWork = 0;
            scanning = false;
            try {
                step();
            } catch (OutOfRoom stop) {
                state = 3;
            }
            work = Math.max(work, stepWork);
            done++;
        }
        return done;
    }

    int state() {
        return state;
    }

    int result() {
        return result;
    }

    int shown(int k) {
        if (k == -1) {
            return shown.size();
        }
        return k >= 0 && k <= 7 && k < shown.size() ? shown.get(shown.size() - 1 - k) : 0;
    }

    int work() {
        return work;
    }

    int used() {
        int sum = 0;
        for (Thing thing : fresh) {
            sum += thing.size();
        }
        return sum + rowCells();
    }

    int grey() {
        return rowCells() - scanned;
    }

    int flips() {
        return flips;
    }

    int depth() {
        int count = 0;
        for (Thing frame = current; frame != null; frame = frame.refs[3]) {
            count++;
        }
        return count;
    }

    int live() {
        if (current == null) {
            return 0;
        }
        Set<Thing> seen = Collections.newSetFromMap(new IdentityHashMap<>());
        return cellsFrom(current, seen);
    }

    private int cellsFrom(Thing thing, Set<Thing> seen) {
        if (thing == null || !seen.add(thing)) {
            return 0;
        }
        int sum = thing.size();
        for (Thing held : thing.refs) {
            sum += cellsFrom(held, seen);
        }
        return sum;
    }

    int kindAt(int x, int f) {
        if (x < 0 || x > 2 || current == null || current.refs[x] == null) {
            return -1;
        }
        Thing thing = current.refs[x];
        if (f == -1) {
            return thing.kind.number;
        }
        if (f < 0 || f >= thing.refs.length || thing.refs[f] == null) {
            return -1;
        }
        return thing.refs[f].kind.number;
    }

    int number(int x) {
        return x < 0 || x > 3 || current == null ? 0 : current.ints[x];
    }

    private int rowCells() {
        int sum = 0;
        for (Thing thing : row) {
            sum += thing.size();
        }
        return sum;
    }

    private void move(Thing thing) throws OutOfRoom {
        if (used() + thing.size() > limit) {
            cause = scanning ? Cause.MOVING_IN_SCAN : Cause.MOVING_IN_READ;
            throw new OutOfRoom();
        }
        thing.age = Age.MOVED;
        row.add(thing);
        stepWork += thing.size();
    }

    private Thing read(Thing holder, int i) throws OutOfRoom {
        Thing held = holder.refs[i];
        if (held != null && held.age == Age.OLD) {
            move(held);
        }
        return held;
    }

    private void scanOne() throws OutOfRoom {
        int before = 0;
        for (Thing thing : new ArrayList<>(row)) {
            int cell = scanned - before;
            if (cell < thing.size()) {
                scanned++;
                stepWork++;
                if (cell >= 1 && cell <= thing.refs.length) {
                    scanning = true;
                    read(thing, cell - 1);
                    scanning = false;
                }
                return;
            }
            before += thing.size();
        }
    }

    private Thing make(Kind kind, Method method) throws OutOfRoom {
        Thing made = kind == null
                ? new Thing(null, method, 4, 4) : new Thing(kind, null, kind.refs, kind.ints);
        for (int i = 0; i < pace * made.size() && grey() > 0; i++) {
            scanOne();
        }
        if (used() + made.size() > limit) {
            if (grey() > 0) {
                cause = Cause.ROW_NOT_DONE;
                throw new OutOfRoom();
            }
            flip();
        }
        if (used() + made.size() > limit) {
            cause = Cause.NO_ROOM_AFTER_FLIP;
            throw new OutOfRoom();
        }
        fresh.add(made);
        return made;
    }

    private void flip() throws OutOfRoom {
        flips++;
        for (Thing thing : fresh) {
            thing.age = Age.OLD;
        }
        for (Thing thing : row) {
            thing.age = Age.OLD;
        }
        fresh.clear();
        row.clear();
        scanned = 0;
        move(current);
    }

    private void step() throws OutOfRoom {
        if (pending == null) {
            int[] line = current.method.code.get(current.ints[3]);
            current.ints[3]++;
            doLine(line[0], line[1], line[2], line[3]);
        } else if (current.method.handler != -1) {
            current.ints[3] = current.method.handler;
            current.ints[2] = pending;
            pending = null;
        } else {
            Thing caller = read(current, 3);
            if (caller == null) {
                state = 2;
                result = pending;
            } else {
                current = caller;
            }
        }
    }

    private void doLine(int op, int x, int y, int z) throws OutOfRoom {
        int[] numbers = current.ints;
        switch (op) {
            case 0: numbers[x] = z; break;
            case 1: numbers[x] = numbers[y] + numbers[z]; break;
            case 2: {
                Thing made = make(kinds.get(z), null);
                current.refs[x] = made;
                break;
            }
            case 3: current.refs[x] = read(current, y); break;
            case 4: current.refs[x] = null; break;
            case 5: {
                Thing thing = read(current, y);
                if (refFits(thing, z)) {
                    current.refs[x] = read(thing, z);
                }
                break;
            }
            case 6: {
                Thing thing = read(current, x);
                if (refFits(thing, z)) {
                    thing.refs[z] = read(current, y);
                }
                break;
            }
            case 7: {
                Thing thing = read(current, y);
                if (intFits(thing, z)) {
                    numbers[x] = thing.ints[z];
                }
                break;
            }
            case 8: {
                Thing thing = read(current, x);
                if (intFits(thing, z)) {
                    thing.ints[z] = numbers[y];
                }
                break;
            }
            case 9: numbers[3] = z; break;
            case 10: if (numbers[x] == 0) { numbers[3] = z; } break;
            case 11: if (read(current, x) == null) { numbers[3] = z; } break;
            case 12: call(x, y, z); break;
            case 13: giveBack(x, y); break;
            case 14: pending = numbers[x]; break;
            default: shown.add(numbers[x]); break;
        }
    }

    private boolean refFits(Thing thing, int z) {
        pending = thing == null ? Integer.valueOf(1) : z >= thing.refs.length ? Integer.valueOf(2) : null;
        return pending == null;
    }

    private boolean intFits(Thing thing, int z) {
        pending = thing == null ? Integer.valueOf(1) : z >= thing.ints.length ? Integer.valueOf(2) : null;
        return pending == null;
    }

    private void call(int x, int y, int selector) throws OutOfRoom {
        Thing target = read(current, x);
        if (target == null) {
            pending = 1;
            return;
        }
        Method method = target.kind.table[selector];
        if (method == null) {
            pending = 3;
            return;
        }
        Thing frame = make(null, method);
        frame.refs[0] = read(current, x);
        frame.refs[1] = read(current, y);
        frame.refs[3] = current;
        frame.ints[0] = current.ints[0];
        current = frame;
    }

    private void giveBack(int x, int y) throws OutOfRoom {
        Thing answer = read(current, x);
        Thing caller = read(current, 3);
        int value = current.ints[y];
        if (caller == null) {
            state = 1;
            result = value;
        } else {
            current = caller;
            current.refs[2] = answer;
            current.ints[2] = value;
        }
    }
}
