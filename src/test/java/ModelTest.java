import java.util.ArrayList;
import java.util.Arrays;
import java.util.List;

/** All promises at once: long runs of calls, drawn from fixed seeds, against the Model. */
public final class ModelTest {
    private static final int RUNS = 6000;
    private static final int MOST_CALLS = 512;

    private final AnyCalls any;
    private final ExtentGroup group;
    private final Model model;
    private final List<String> told = new ArrayList<>();

    private ModelTest(long seed) {
        any = new AnyCalls(seed);
        int disks = any.disks();
        int extents = any.extents();
        group = new ExtentGroup(disks, extents);
        model = new Model(disks, extents);
        told.add("new ExtentGroup(" + disks + ", " + extents + ")");
    }

    public static void main(String[] args) {
        for (int seed = 0; seed < RUNS; seed++) {
            ModelTest test = new ModelTest(seed);
            // Every other run keeps calls back to ask for the whole state at its end.
            boolean askAll = seed % 2 == 1;
            int calls = askAll ? MOST_CALLS - Probe.WHOLE_STATE.size() : MOST_CALLS;
            if (!test.agrees(calls) || askAll && !test.sameState()) {
                test.told.forEach(System.out::println);
                System.out.println("seed " + seed + ": the last answer is not as due");
                System.exit(1);
            }
        }
        System.out.println("all answers are as due");
    }

    private boolean agrees(int calls) {
        for (int i = 0; i < calls; i++) {
            String name = any.name();
            if (!same(name, any.arguments(name)) || model.sawTie) {
                return false;
            }
        }
        return true;
    }

    private boolean sameState() {
        return Probe.WHOLE_STATE.stream().allMatch(ask -> same(ask.name(), ask.args()));
    }

    private boolean same(String name, int... args) {
        int got = Script.call(group, name, args);
        int want = model.call(name, args);
        told.add(name + Arrays.toString(args) + " answered " + got + ", due is " + want);
        return got == want;
    }
}
