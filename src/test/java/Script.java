import java.util.ArrayList;
import java.util.Arrays;
import java.util.List;
import java.util.Map;

/**
 * Runs of calls, written "create 1 4 2 -> 0", "pull 9 -> false", "read 0 99 -> BAD", with semicolons
 * between them. A test makes one Script, runs its runs and closes with end(), which leaves with exit
 * code 1 if an answer was not the one that is due. The titles are the document's own words where a
 * run is the test of a sentence.
 */
final class Script {
    static final Map<String, Integer> NAMES = Map.ofEntries(
            Map.entry("BAD", -1), Map.entry("DOWN", -2), Map.entry("FEW", -3), Map.entry("BUSY", -4),
            Map.entry("SPACE", -5), Map.entry("MISSING", -6), Map.entry("STOPPED", -7),
            Map.entry("IDLE", -8), Map.entry("UP", -9), Map.entry("MANY", -10), Map.entry("TORN", -11),
            Map.entry("true", 1), Map.entry("false", 0),
            Map.entry("MAX", Integer.MAX_VALUE), Map.entry("MIN", Integer.MIN_VALUE));

    private int wrong = 0;

    /** A run on a new object, which is given back for more calls. */
    ExtentGroup run(String title, int disks, int extents, String... lines) {
        ExtentGroup group = new ExtentGroup(disks, extents);
        go(title, group, lines);
        return group;
    }

    void go(String title, ExtentGroup group, String... lines) {
        for (String line : lines) {
            for (String call : line.split(";")) {
                if (!call.isBlank()) {
                    check(title, group, call.trim());
                }
            }
        }
    }

    /**
     * Each of the refused calls alone, after the run before it: it is answered as said, and changes nothing, for
     * an object on which it was not tried answers all that follows in the same way. So, too, with a stop armed,
     * and with a torn copy at the beginning, by which disk 0's next slot is not the one behind its present copy.
     */
    void refuses(String title, int disks, int extents, String before, String... refused) {
        String torn = "arm 0 -> true; create 1 1 1 -> STOPPED; activate -> 1; ";
        for (String line : refused) {
            for (String call : line.split(";")) {
                changesNothing(title, disks, extents, before, call);
                changesNothing(title, disks, extents, before + "; arm 6 -> true", call);
                changesNothing(title, disks, extents, torn + before, call);
            }
        }
    }

    private void changesNothing(String title, int disks, int extents, String before, String call) {
        for (List<Probe.Call> probe : Probe.ALL) {
            ExtentGroup tried = run(title, disks, extents, before, call);
            ExtentGroup untried = run(title, disks, extents, before);
            boolean same = Probe.answers(tried, probe).equals(Probe.answers(untried, probe));
            due(title + ": changes nothing: " + call.trim(), same ? 1 : 0, 1);
        }
    }

    void due(String what, int got, int want) {
        if (got != want) {
            wrong++;
            System.out.println(what + " answered " + got + ", due is " + want);
        }
    }

    void end() {
        System.out.println(wrong == 0 ? "all answers are as due" : wrong + " answers are not as due");
        if (wrong != 0) {
            System.exit(1);
        }
    }

    private void check(String title, ExtentGroup group, String call) {
        String[] sides = call.split("->");
        List<String> words = new ArrayList<>(Arrays.asList(sides[0].trim().split(" +")));
        String name = words.remove(0);
        int[] args = words.stream().mapToInt(Script::number).toArray();
        due(title + ": " + call, call(group, name, args), number(sides[1].trim()));
    }

    private static int number(String word) {
        return NAMES.containsKey(word) ? NAMES.get(word) : Integer.parseInt(word);
    }

    /** Makes one call; a boolean counts 1 or 0. */
    static int call(ExtentGroup x, String name, int... a) {
        return switch (name) {
            case "create" -> x.create(a[0], a[1], a[2]);
            case "extend" -> x.extend(a[0], a[1]);
            case "reduce" -> x.reduce(a[0], a[1]);
            case "move" -> x.move(a[0], a[1], a[2]);
            case "step" -> x.step();
            case "cancel" -> x.cancel();
            case "read" -> x.read(a[0], a[1]);
            case "write" -> x.write(a[0], a[1], a[2]);
            case "pull" -> x.pull(a[0]) ? 1 : 0;
            case "plug" -> x.plug(a[0]) ? 1 : 0;
            case "arm" -> x.arm(a[0]) ? 1 : 0;
            case "crash" -> x.crash() ? 1 : 0;
            case "activate" -> x.activate();
            case "where" -> x.where(a[0], a[1]);
            case "rows" -> x.rows(a[0]);
            case "free" -> x.free(a[0]);
            case "moving" -> x.moving();
            case "sequence" -> x.sequence();
            case "slot" -> x.slot(a[0], a[1]);
            default -> throw new IllegalArgumentException(name);
        };
    }
}
