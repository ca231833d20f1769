import java.util.ArrayList;
import java.util.Arrays;
import java.util.List;
import java.util.Random;

/** All promises at once: long runs of calls, drawn from fixed seeds, against the Model. */
public final class ModelTest {
    private static final int RUNS = 6000;
    private static final int MOST_CALLS = 512;
    private static final int CALLS_TO_ASK_ALL = 266;
    private static final String[] COMMON = {
        "create", "create", "extend", "reduce", "move", "move", "step", "step", "step", "step", "step", "cancel",
        "read", "write", "write", "write", "pull", "plug", "plug", "plug", "arm", "crash",
        "activate", "activate", "activate", "where", "rows", "free", "moving", "sequence", "slot"};

    private final Random random;
    private final boolean calm;
    private final ExtentGroup group;
    private final Model model;
    private final List<String> told = new ArrayList<>();

    private ModelTest(long seed) {
        random = new Random(seed);
        calm = random.nextInt(3) != 0;
        int disks = random.nextInt(8);
        int extents = random.nextInt(13);
        group = new ExtentGroup(disks, extents);
        model = new Model(disks, extents);
        told.add("new ExtentGroup(" + disks + ", " + extents + ")");
    }

    public static void main(String[] args) {
        for (int seed = 0; seed < RUNS; seed++) {
            ModelTest test = new ModelTest(seed);
            // Every other run keeps calls back to ask for the whole state at its end.
            boolean askAll = seed % 2 == 1;
            if (!test.agrees(askAll ? MOST_CALLS - CALLS_TO_ASK_ALL : MOST_CALLS) || askAll && !test.sameState()) {
                test.told.forEach(System.out::println);
                System.out.println("seed " + seed + ": the last answer is not as due");
                System.exit(1);
            }
        }
        System.out.println("all answers are as due");
    }

    private boolean agrees(int calls) {
        for (int i = 0; i < calls; i++) {
            String name = anyCall();
            if (!same(name, arguments(name)) || model.sawTie) {
                return false;
            }
        }
        return true;
    }

    /** Calm runs have fewer stops and disks away, so that moves come further. */
    private String anyCall() {
        String name = COMMON[random.nextInt(COMMON.length)];
        boolean stops = name.equals("arm") || name.equals("crash") || name.equals("pull");
        return calm && stops && random.nextInt(8) != 0 ? "step" : name;
    }

    private boolean same(String name, int... args) {
        int got = Script.call(group, name, args);
        int want = model.call(name, args);
        told.add(name + Arrays.toString(args) + " answered " + got + ", due is " + want);
        return got == want;
    }

    private boolean sameState() {
        boolean same = same("sequence") && same("moving");
        for (int v = 0; v < 4; v++) {
            same = same && same("rows", v);
            for (int e = 0; e < 12; e++) {
                same = same && same("where", v, e);
            }
            for (int b = 0; b < 48; b++) {
                same = same && same("read", v, b);
            }
        }
        for (int d = 0; d < 5; d++) {
            same = same && same("free", d) && same("slot", d, 0) && same("slot", d, 1) && same("slot", d, 2);
        }
        return same;
    }

    private int[] arguments(String name) {
        switch (name) {
            case "create": return new int[] {odd(1, 4), odd(1, 4), odd(1, 3)};
            case "extend":
            case "reduce": return new int[] {odd(0, 3), odd(1, 2)};
            case "move": return new int[] {odd(0, 3), odd(0, 5), odd(0, 4)};
            case "read": return new int[] {odd(0, 3), odd(0, 20)};
            case "write": return new int[] {odd(0, 3), odd(0, 20), odd(0, 1000)};
            case "where": return new int[] {odd(0, 3), odd(0, 11)};
            case "rows": return new int[] {odd(0, 3)};
            case "pull":
            case "plug":
            case "free": return new int[] {odd(0, 4)};
            case "arm": return new int[] {odd(0, 9)};
            case "slot": return new int[] {odd(0, 4), odd(0, 2)};
            default: return new int[0];
        }
    }

    /** Mostly within the bounds; now and then at their edge or far away from them. */
    private int odd(int least, int most) {
        switch (random.nextInt(60)) {
            case 0: return least - 1;
            case 1: return most + 1;
            case 2: return random.nextInt();
            case 3: return random.nextBoolean() ? Integer.MAX_VALUE : Integer.MIN_VALUE;
            case 4: return random.nextInt(130);
            default: return least + random.nextInt(most - least + 1);
        }
    }
}
