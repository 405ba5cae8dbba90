import java.util.ArrayList;
import java.util.List;
import java.util.function.Supplier;
import java.util.function.ToIntFunction;

/**
 * "What is refused changes nothing. Questions read, scan and move nothing." Two machines are
 * brought into the same situation; one of them gets the call; then both must answer the same to
 * all that could tell a difference.
 */
public final class NothingChangesTest {
    private static final int LOW = Integer.MIN_VALUE;
    private static final int HIGH = Integer.MAX_VALUE;

    private static final Checks CHECKS = new Checks();

    /** A call with its answer as a number: a boolean is 1 or 0. */
    private record Call(String name, ToIntFunction<ReadBarrierMachine> answer) {
    }

    private NothingChangesTest() {
    }

    public static void main(String[] args) {
        situation("new", NothingChangesTest::fresh, code(13, 0, 0, 0), seal(), drop(), start(0), bind(0, 0, 0),
                kind(0, 0, 0));
        situation("written", NothingChangesTest::written, kind(2, 2, 3), kind(2, 3, 2), kind(3, 3, 3), seal(), drop(),
                code(13, 0, 0, 0), bind(3, 0, 0), bind(0, 0, 4), start(4));
        situation("open and empty", NothingChangesTest::openEmpty, method(-1), method(0), seal(), start(4),
                bind(0, 0, 4), code(2, 0, 0, 3), code(9, 0, 0, 12));
        situation("open and full", NothingChangesTest::openFull, method(-1), seal(), code(13, 0, 0, 0), start(4),
                bind(0, 0, 4));
        situation("all there", NothingChangesTest::allThere, method(-1), method(11), kind(-1, 0, 0), kind(0, 3, 3),
                seal(), drop(), code(13, 0, 0, 0), start(6), bind(4, 0, 0));
        situation("in the middle of the row", NothingChangesTest::inTheRow, start(4), bind(0, 0, 4), method(0));
        situation("in a call", NothingChangesTest::inACall, start(4), bind(0, 0, 4), seal(), drop());
        situation("exception pending", NothingChangesTest::pending, start(4), bind(0, 0, 4), seal());
        situation("ended by RETURN", NothingChangesTest::returned, start(4), bind(0, 0, 4), seal());
        situation("uncaught", NothingChangesTest::uncaught, start(4), bind(0, 0, 4), seal());
        situation("out of room", NothingChangesTest::outOfRoom, start(4), bind(0, 0, 4), seal());
        questionsBetweenSteps();
        CHECKS.end();
    }

    private static Call kind(int parent, int refs, int ints) {
        return new Call("kind(" + parent + ", " + refs + ", " + ints + ")", x -> x.kind(parent, refs, ints));
    }

    private static Call bind(int kind, int selector, int m) {
        return new Call("bind(" + kind + ", " + selector + ", " + m + ")", x -> x.bind(kind, selector, m) ? 1 : 0);
    }

    private static Call method(int handler) {
        return new Call("method(" + handler + ")", x -> x.method(handler));
    }

    private static Call code(int op, int a, int b, int c) {
        return new Call("code(" + op + ", " + a + ", " + b + ", " + c + ")", x -> x.code(op, a, b, c));
    }

    private static Call seal() {
        return new Call("seal()", x -> x.seal() ? 1 : 0);
    }

    private static Call drop() {
        return new Call("drop()", x -> x.drop() ? 1 : 0);
    }

    private static Call start(int m) {
        return new Call("start(" + m + ", 9)", x -> x.start(m, 9) ? 1 : 0);
    }

    private static Call run(int n) {
        return new Call("run(" + n + ")", x -> x.run(n));
    }

    /** Calls that are refused in every situation. */
    private static List<Call> alwaysRefused() {
        List<Call> calls = new ArrayList<>();
        for (int wrong : new int[] {LOW, -2, 4, HIGH}) {
            calls.add(kind(wrong, 1, 1));
            calls.add(bind(wrong, 0, 0));
            calls.add(bind(0, wrong, 0));
        }
        for (int wrong : new int[] {LOW, -1, 4, HIGH}) {
            calls.add(kind(-1, wrong, 1));
            calls.add(kind(-1, 1, wrong));
            calls.add(code(13, wrong, 0, 0));
            calls.add(code(13, 0, wrong, 0));
            calls.add(code(12, 0, 0, wrong));
        }
        for (int wrong : new int[] {LOW, -1, 6, HIGH}) {
            calls.add(bind(0, 0, wrong));
            calls.add(start(wrong));
        }
        for (int wrong : new int[] {LOW, -2, 12, HIGH}) {
            calls.add(method(wrong));
        }
        for (int wrong : new int[] {LOW, -1, 16, HIGH}) {
            calls.add(code(wrong, 0, 0, 0));
        }
        for (int wrong : new int[] {LOW, -1, 201, HIGH}) {
            calls.add(run(wrong));
        }
        return calls;
    }

    private static List<Call> questions() {
        List<Call> calls = new ArrayList<>();
        calls.add(new Call("state()", ReadBarrierMachine::state));
        calls.add(new Call("result()", ReadBarrierMachine::result));
        calls.add(new Call("work()", ReadBarrierMachine::work));
        calls.add(new Call("used()", ReadBarrierMachine::used));
        calls.add(new Call("grey()", ReadBarrierMachine::grey));
        calls.add(new Call("flips()", ReadBarrierMachine::flips));
        calls.add(new Call("depth()", ReadBarrierMachine::depth));
        calls.add(new Call("live()", ReadBarrierMachine::live));
        for (int k = -1; k <= 7; k++) {
            int which = k;
            calls.add(new Call("shown(" + k + ")", x -> x.shown(which)));
        }
        for (int r = 0; r <= 3; r++) {
            int which = r;
            calls.add(new Call("number(" + r + ")", x -> x.number(which)));
        }
        for (int r = 0; r <= 2; r++) {
            for (int f = -1; f <= 2; f++) {
                int register = r;
                int ref = f;
                calls.add(new Call("kindAt(" + r + ", " + f + ")", x -> x.kindAt(register, ref)));
            }
        }
        return calls;
    }

    private static void situation(String name, Supplier<ReadBarrierMachine> made, Call... refusedHere) {
        String due = everythingOf(made.get());
        List<Call> refused = alwaysRefused();
        refused.addAll(List.of(refusedHere));
        CHECKS.sentence(name, "What is refused changes nothing.");
        for (Call call : refused) {
            ReadBarrierMachine x = made.get();
            boolean isCode = call.name.startsWith("code");
            int answer = call.answer.applyAsInt(x);
            CHECKS.due(call.name + " is refused", isCode ? answer != 0 : answer <= 0, true);
            CHECKS.due("all that follows " + call.name, everythingOf(x), due);
        }
        CHECKS.sentence(name, "Questions read, scan and move nothing.");
        for (Call question : questions()) {
            ReadBarrierMachine x = made.get();
            int first = question.answer.applyAsInt(x);
            CHECKS.due(question.name + " again", question.answer.applyAsInt(x), first);
            CHECKS.due("all that follows " + question.name, everythingOf(x), due);
        }
    }

    private static String answersOf(ReadBarrierMachine x, List<Call> calls) {
        StringBuilder text = new StringBuilder();
        for (Call call : calls) {
            text.append(call.name).append(' ').append(call.answer.applyAsInt(x)).append("; ");
        }
        return text.toString();
    }

    /** Whatever a call could have changed: what can be asked, how the machine goes on, what is written. */
    private static String everythingOf(ReadBarrierMachine x) {
        StringBuilder text = new StringBuilder();
        text.append(answersOf(x, questions()));
        text.append(answersOf(x, List.of(run(1))));
        text.append(answersOf(x, questions()));
        text.append(answersOf(x, List.of(run(40))));
        text.append(answersOf(x, questions()));
        // The open method, if there is one, as far as it was written; then what is next.
        text.append(answersOf(x, List.of(code(15, 0, 0, 0), code(13, 0, 0, 0), seal(), drop(), method(-1),
                code(13, 0, 0, 0), seal(), kind(-1, 0, 0), kind(-1, 0, 0))));
        for (int m = 0; m < 6; m++) {
            text.append(answersOf(x, List.of(start(m), run(60), run(1))));
            text.append(answersOf(x, questions().subList(0, 12)));
        }
        return text.toString();
    }

    private static ReadBarrierMachine fresh() {
        return new ReadBarrierMachine(24, 1);
    }

    /** Three kinds, four methods: one that goes round, one that is called, one that fails, one that ends. */
    private static ReadBarrierMachine written() {
        ReadBarrierMachine x = Lines.machine(28, 1);
        int round = Lines.method(x, -1, Lines.make(0, 1), Lines.make(1, 1), Lines.put(0, 1, 0), Lines.make(2, 2),
                Lines.constant(1, 3), Lines.store(0, 1, 0), Lines.show(1), Lines.jump(0));
        int called = Lines.method(x, -1, Lines.make(1, 0), Lines.show(0), Lines.add(1, 0, 0), Lines.giveBack(1, 1));
        int failing = Lines.method(x, -1, Lines.make(0, 1), Lines.call(0, 0, 1), Lines.show(2), Lines.call(0, 2, 2),
                Lines.giveBack(0, 0));
        int ending = Lines.method(x, 4, Lines.make(0, 2), Lines.make(1, 1), Lines.call(1, 0, 1), Lines.load(0, 2, 0),
                Lines.show(2), Lines.call(0, 1, 3), Lines.giveBack(0, 2));
        CHECKS.due("methods", round + called + failing + ending, 0 + 1 + 2 + 3);
        x.bind(1, 1, called);
        x.bind(2, 3, called);
        return x;
    }

    private static ReadBarrierMachine openEmpty() {
        ReadBarrierMachine x = written();
        x.method(1);
        return x;
    }

    private static ReadBarrierMachine openFull() {
        ReadBarrierMachine x = written();
        x.method(-1);
        for (int i = 0; i < 12; i++) {
            x.code(15, 0, 0, 0);
        }
        return x;
    }

    private static ReadBarrierMachine allThere() {
        ReadBarrierMachine x = written();
        x.kind(1, 2, 1);
        Lines.method(x, -1, Lines.make(0, 3), Lines.call(0, 0, 1), Lines.giveBack(0, 2));
        Lines.method(x, 0, Lines.show(2), Lines.giveBack(0, 2));
        x.start(4, 7);
        x.run(2);
        return x;
    }

    private static ReadBarrierMachine started(int m, int steps) {
        ReadBarrierMachine x = written();
        x.start(m, 7);
        x.run(steps);
        return x;
    }

    private static ReadBarrierMachine inTheRow() {
        ReadBarrierMachine x = started(0, 12);
        x.method(0);
        x.code(15, 0, 0, 0);
        CHECKS.due("flips()", x.flips(), 1);
        CHECKS.due("grey()", x.grey() > 0, true);
        CHECKS.due("old ones are held", x.live() > x.used(), true);
        return x;
    }

    private static ReadBarrierMachine inACall() {
        ReadBarrierMachine x = started(3, 4);
        CHECKS.due("depth()", x.depth(), 2);
        return x;
    }

    private static ReadBarrierMachine pending() {
        ReadBarrierMachine x = started(2, 8);
        CHECKS.due("state()", x.state(), 0);
        CHECKS.due("PLACE", x.number(3), 4);
        return x;
    }

    private static ReadBarrierMachine returned() {
        ReadBarrierMachine x = started(1, 9);
        CHECKS.due("state()", x.state(), 1);
        return x;
    }

    private static ReadBarrierMachine uncaught() {
        ReadBarrierMachine x = started(2, 9);
        CHECKS.due("state()", x.state(), 2);
        return x;
    }

    private static ReadBarrierMachine outOfRoom() {
        ReadBarrierMachine x = started(0, 60);
        CHECKS.due("state()", x.state(), 3);
        return x;
    }

    private static void questionsBetweenSteps() {
        CHECKS.sentence("between any two steps", "Questions read, scan and move nothing.");
        List<Call> questions = questions();
        for (int m = 0; m < 4; m++) {
            for (int from = 0; from < questions.size(); from += 5) {
                List<Call> some = questions.subList(from, Math.min(from + 5, questions.size()));
                ReadBarrierMachine asked = started(m, 0);
                ReadBarrierMachine quiet = started(m, 0);
                for (int step = 0; step < 40; step++) {
                    answersOf(asked, some);
                    CHECKS.due("run(1)", asked.run(1), quiet.run(1));
                }
                CHECKS.due("all answers", answersOf(asked, questions), answersOf(quiet, questions));
            }
        }
    }
}
