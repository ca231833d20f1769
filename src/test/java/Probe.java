import java.util.ArrayList;
import java.util.List;

/**
 * Runs of calls that bring to light in what two objects differ: the state that can be asked for, and what
 * only later calls show (what is armed, how many copies a disk was given, which copies its slots hold).
 */
final class Probe {
    record Call(String name, int... args) { }

    static final List<Call> WHOLE_STATE = wholeState();
    static final List<List<Call>> ALL = all();

    private Probe() { }

    static List<Integer> answers(ExtentGroup group, List<Call> calls) {
        List<Integer> answers = new ArrayList<>();
        for (Call call : calls) {
            answers.add(Script.call(group, call.name(), call.args()));
        }
        return answers;
    }

    private static List<List<Call>> all() {
        List<List<Call>> all = new ArrayList<>();
        all.add(WHOLE_STATE);
        all.add(aCommit());
        List<Call> withAllDisks = new ArrayList<>();
        plugAll(withAllDisks);
        withAllDisks.addAll(aCommit());
        all.add(withAllDisks);
        all.add(afterANewStart());
        all.add(untilAStop());
        all.add(eachDiskLeftBehind());
        all.add(everyCell());
        for (int seed = 0; seed < 8; seed++) {
            all.add(anyCalls(seed));
        }
        return all;
    }

    /** The slots first: they are asked for by calls that are never refused here. */
    private static List<Call> wholeState() {
        List<Call> calls = new ArrayList<>();
        for (int d = 0; d < 5; d++) {
            for (int k = 0; k < 3; k++) {
                calls.add(new Call("slot", d, k));
            }
        }
        calls.add(new Call("sequence"));
        calls.add(new Call("moving"));
        for (int v = 0; v < 4; v++) {
            calls.add(new Call("rows", v));
            for (int e = 0; e < 12; e++) {
                calls.add(new Call("where", v, e));
            }
        }
        for (int d = 0; d < 5; d++) {
            calls.add(new Call("free", d));
        }
        readAll(calls);
        return calls;
    }

    private static void readAll(List<Call> calls) {
        for (int v = 0; v < 4; v++) {
            for (int b = 0; b < 48; b++) {
                calls.add(new Call("read", v, b));
            }
        }
    }

    /** The slots that are written tell which copy is the present one. */
    private static List<Call> aCommit() {
        List<Call> calls = new ArrayList<>();
        calls.add(new Call("create", 1, 1, 1));
        for (int k = 0; k < 3; k++) {
            calls.add(new Call("slot", 0, k));
            calls.add(new Call("slot", 1, k));
        }
        return calls;
    }

    private static void plugAll(List<Call> calls) {
        for (int d = 0; d < 5; d++) {
            calls.add(new Call("plug", d));
        }
    }

    private static List<Call> afterANewStart() {
        List<Call> calls = new ArrayList<>();
        calls.add(new Call("crash"));
        plugAll(calls);
        calls.add(new Call("activate"));
        calls.addAll(WHOLE_STATE);
        return calls;
    }

    /** More acts than can be armed: the armed stop, if there is one, comes at its place among them. */
    private static List<Call> untilAStop() {
        List<Call> calls = new ArrayList<>();
        plugAll(calls);
        calls.add(new Call("activate"));
        calls.add(new Call("create", 1, 1, 1));
        for (int i = 0; i < 101; i++) {
            calls.add(new Call("write", 0, 0, i));
        }
        return calls;
    }

    /**
     * A disk that comes back without the present copy shows by its next slot how many it was given. Of the
     * calls while it is away one at least commits, be the volumes all there or the disks full.
     */
    private static List<Call> eachDiskLeftBehind() {
        List<Call> calls = new ArrayList<>();
        calls.add(new Call("crash"));
        plugAll(calls);
        calls.add(new Call("activate"));
        calls.add(new Call("cancel"));
        for (int d = 0; d < 5; d++) {
            calls.add(new Call("pull", d));
            calls.add(new Call("create", 1, 1, 1));
            calls.add(new Call("reduce", 3, 1));
            calls.add(new Call("reduce", 0, 1));
            calls.add(new Call("plug", d));
            calls.add(new Call("create", 1, 1, 1));
            for (int k = 0; k < 3; k++) {
                calls.add(new Call("slot", d, k));
            }
        }
        return calls;
    }

    /** The volumes take whatever is free, a move's target too, and tell what is in it. */
    private static List<Call> everyCell() {
        List<Call> calls = new ArrayList<>();
        calls.add(new Call("crash"));
        plugAll(calls);
        calls.add(new Call("activate"));
        calls.add(new Call("cancel"));
        for (int v = 0; v < 4; v++) {
            calls.add(new Call("create", 1, 4, 1));
        }
        for (int i = 0; i < 44; i++) {
            calls.add(new Call("extend", i % 4, 1));
        }
        readAll(calls);
        return calls;
    }

    private static List<Call> anyCalls(long seed) {
        AnyCalls any = new AnyCalls(seed);
        List<Call> calls = new ArrayList<>();
        for (int i = 0; i < 400; i++) {
            String name = any.name();
            calls.add(new Call(name, any.arguments(name)));
        }
        return calls;
    }
}
