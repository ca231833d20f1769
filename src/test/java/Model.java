import java.util.ArrayList;
import java.util.Comparator;
import java.util.HashMap;
import java.util.HashSet;
import java.util.List;
import java.util.Map;
import java.util.Set;
import java.util.TreeMap;
import java.util.function.Supplier;

/**
 * The document told a second time, as plainly as the Java library lets it be told and by another way than
 * the program's: every call first names all its acts, then makes them until a stop comes.
 */
final class Model {
    record Extent(int disk, int index) { }

    record Vol(int width, int chunk, List<Extent> extents) {
        int height() {
            return extents.size() / width;
        }
    }

    record Going(int volume, int number, Extent target) { }

    record Plan(TreeMap<Integer, Vol> volumes, Going move) { }

    record Stamped(int number, int stamp) { }

    /** An act: what it does when it is made, and what a stop in its place leaves behind. */
    record Act(Runnable made, Runnable stopped) { }

    static final Stamped TORN = new Stamped(-11, 0);
    static final Stamped EMPTY = new Stamped(0, 0);

    final int diskCount;
    final int extentCount;
    private final Set<Integer> present = new HashSet<>();
    private final Map<Extent, int[]> cells = new HashMap<>();
    private final Map<Stamped, Plan> plans = new HashMap<>();
    private final Stamped[][] slots;
    private final int[] writes;
    /** The present copy, null while the group is down. */
    private Stamped now = new Stamped(1, 1);
    private int copied = 0;
    private int stamps = 1;
    private Integer armed = null;
    /** Set if ever two copies could have been chosen, which the document says never to be. */
    boolean sawTie = false;

    Model(int disks, int extents) {
        diskCount = disks < 2 ? 2 : disks > 5 ? 5 : disks;
        extentCount = extents < 2 ? 2 : extents > 10 ? 10 : extents;
        slots = new Stamped[diskCount][];
        writes = new int[diskCount];
        plans.put(now, new Plan(new TreeMap<>(), null));
        for (int d = 0; d < diskCount; d++) {
            present.add(d);
            slots[d] = new Stamped[] {now, EMPTY, EMPTY};
            writes[d] = 1;
            for (int e = 0; e < extentCount; e++) {
                cells.put(new Extent(d, e), new int[4]);
            }
        }
    }

    int call(String name, int... a) {
        switch (name) {
            case "pull":
                return present.remove(a[0]) ? 1 : 0;
            case "plug":
                return a[0] >= 0 && a[0] < diskCount && present.add(a[0]) ? 1 : 0;
            case "arm":
                armed = a[0] >= 0 && a[0] <= 100 ? Integer.valueOf(a[0]) : armed;
                return a[0] >= 0 && a[0] <= 100 ? 1 : 0;
            case "slot":
                return a[0] >= 0 && a[0] < diskCount && a[1] >= 0 && a[1] < 3 ? slots[a[0]][a[1]].number() : -1;
            case "activate":
                return now != null ? -9 : start();
            case "crash":
                boolean wasUp = now != null;
                armed = wasUp ? null : armed;
                now = null;
                return wasUp ? 1 : 0;
            default:
                return now == null ? -2 : callUp(name, a);
        }
    }

    private int callUp(String name, int... a) {
        switch (name) {
            case "create": return create(a[0], a[1], a[2]);
            case "extend": return extend(a[0], a[1]);
            case "reduce": return reduce(a[0], a[1]);
            case "move": return move(a[0], a[1], a[2]);
            case "step": return step();
            case "cancel":
                return plan().move() == null ? -8 : few() ? -3 : commit(new Plan(plan().volumes(), null), 0);
            case "read": return readOrWrite(a[0], a[1], null);
            case "write": return readOrWrite(a[0], a[1], a[2]);
            case "where":
                Vol v = plan().volumes().get(a[0]);
                if (v == null || a[1] < 0 || a[1] >= v.extents().size()) {
                    return -1;
                }
                return 16 * v.extents().get(a[1]).disk() + v.extents().get(a[1]).index();
            case "rows": return plan().volumes().containsKey(a[0]) ? plan().volumes().get(a[0]).height() : -1;
            case "free": return a[0] < 0 || a[0] >= diskCount ? -1 : freeOf(a[0], used()).size();
            case "moving":
                Going m = plan().move();
                return m == null ? -8 : 128 * m.volume() + 16 * copied + m.number();
            case "sequence": return now.number();
            default: throw new IllegalArgumentException(name);
        }
    }

    private Plan plan() {
        return plans.get(now);
    }

    private boolean few() {
        return present.size() * 2 <= diskCount;
    }

    private Set<Extent> used() {
        Set<Extent> all = new HashSet<>();
        plan().volumes().values().forEach(v -> all.addAll(v.extents()));
        if (plan().move() != null) {
            all.add(plan().move().target());
        }
        return all;
    }

    private List<Extent> freeOf(int disk, Set<Extent> used) {
        List<Extent> free = new ArrayList<>();
        for (int e = 0; e < extentCount; e++) {
            if (!used.contains(new Extent(disk, e))) {
                free.add(new Extent(disk, e));
            }
        }
        return free;
    }

    /** The extents of so many rows more, or null when there is no room. */
    private List<Extent> room(int width, int height) {
        Set<Extent> used = used();
        List<Extent> all = new ArrayList<>();
        for (int r = 0; r < height; r++) {
            List<Integer> able = new ArrayList<>(present);
            able.removeIf(d -> freeOf(d, used).isEmpty());
            able.sort(Comparator.<Integer>comparingInt(d -> -freeOf(d, used).size()).thenComparingInt(d -> d));
            if (able.size() < width) {
                return null;
            }
            able.subList(0, width).stream().sorted().forEach(d -> all.add(freeOf(d, used).get(0)));
            used.addAll(all);
        }
        return all;
    }

    private int create(int width, int chunk, int height) {
        boolean fits = height >= 1 && (long) width * height <= 12;
        if (width < 1 || width > 4 || chunk != 1 && chunk != 2 && chunk != 4 || !fits) {
            return -1;
        }
        if (few()) {
            return -3;
        }
        int number = 0;
        while (plan().volumes().containsKey(number)) {
            number++;
        }
        if (number > 3) {
            return -10;
        }
        List<Extent> taken = room(width, height);
        return taken == null ? -5 : commit(with(number, new Vol(width, chunk, taken)), number);
    }

    private int extend(int volume, int more) {
        Vol v = plan().volumes().get(volume);
        if (v == null || more < 1 || v.width() * ((long) v.height() + more) > 12) {
            return -1;
        }
        if (few()) {
            return -3;
        }
        if (plan().move() != null && plan().move().volume() == volume) {
            return -4;
        }
        List<Extent> taken = room(v.width(), more);
        if (taken == null) {
            return -5;
        }
        List<Extent> all = new ArrayList<>(v.extents());
        all.addAll(taken);
        return commit(with(volume, new Vol(v.width(), v.chunk(), all)), v.height() + more);
    }

    private int reduce(int volume, int less) {
        Vol v = plan().volumes().get(volume);
        if (v == null || less < 1 || less > v.height()) {
            return -1;
        }
        if (few()) {
            return -3;
        }
        if (plan().move() != null && plan().move().volume() == volume) {
            return -4;
        }
        int left = v.height() - less;
        List<Extent> kept = new ArrayList<>(v.extents().subList(0, left * v.width()));
        return commit(with(volume, left == 0 ? null : new Vol(v.width(), v.chunk(), kept)), left);
    }

    private int move(int volume, int number, int disk) {
        Vol v = plan().volumes().get(volume);
        if (v == null || number < 0 || number >= v.extents().size() || disk < 0 || disk >= diskCount) {
            return -1;
        }
        if (few()) {
            return -3;
        }
        if (plan().move() != null) {
            return -4;
        }
        if (!present.contains(v.extents().get(number).disk()) || !present.contains(disk)) {
            return -6;
        }
        List<Extent> free = freeOf(disk, used());
        return free.isEmpty() ? -5 : commit(new Plan(plan().volumes(), new Going(volume, number, free.get(0))), 0);
    }

    private int step() {
        Going m = plan().move();
        if (m == null) {
            return -8;
        }
        if (few()) {
            return -3;
        }
        Vol v = plan().volumes().get(m.volume());
        Extent source = v.extents().get(m.number());
        if (!present.contains(source.disk()) || !present.contains(m.target().disk())) {
            return -6;
        }
        if (copied < 4) {
            int cell = copied;
            return perform(List.of(put(m.target(), cell, cells.get(source)[cell])), () -> 4 - ++copied);
        }
        List<Extent> all = new ArrayList<>(v.extents());
        all.set(m.number(), m.target());
        return commit(new Plan(with(m.volume(), new Vol(v.width(), v.chunk(), all)).volumes(), null), 4);
    }

    private int readOrWrite(int volume, int block, Integer value) {
        Vol v = plan().volumes().get(volume);
        if (v == null || block < 0 || block >= 4 * v.width() * v.height() || value != null && value < 0) {
            return -1;
        }
        int c = block % (4 * v.width());
        int number = v.width() * (block / (4 * v.width())) + c / v.chunk() % v.width();
        int cell = c / v.chunk() / v.width() * v.chunk() + c % v.chunk();
        Extent at = v.extents().get(number);
        List<Extent> written = new ArrayList<>(List.of(at));
        Going m = plan().move();
        if (value != null && m != null && m.volume() == volume && m.number() == number && cell < copied) {
            written.add(m.target());
        }
        if (written.stream().anyMatch(x -> !present.contains(x.disk()))) {
            return -6;
        }
        if (value == null) {
            return cells.get(at)[cell];
        }
        return perform(written.stream().map(x -> put(x, cell, value)).toList(), written::size);
    }

    private Plan with(int volume, Vol v) {
        TreeMap<Integer, Vol> volumes = new TreeMap<>(plan().volumes());
        volumes.remove(volume);
        if (v != null) {
            volumes.put(volume, v);
        }
        return new Plan(volumes, plan().move());
    }

    private Act put(Extent at, int cell, int value) {
        return new Act(() -> cells.get(at)[cell] = value, () -> { });
    }

    private Act put(int disk, int slot, Stamped copy) {
        return new Act(() -> hold(disk, slot, copy), () -> hold(disk, slot, TORN));
    }

    private void hold(int disk, int slot, Stamped copy) {
        slots[disk][slot] = copy;
        writes[disk]++;
    }

    private int commit(Plan next, int answer) {
        Stamped copy = new Stamped(now.number() + 1, ++stamps);
        plans.put(copy, next);
        boolean sameMove = plan().move() != null && plan().move().equals(next.move());
        List<Act> acts = new ArrayList<>();
        for (int d = 0; d < diskCount; d++) {
            int held = List.of(slots[d]).indexOf(now);
            if (present.contains(d)) {
                acts.add(put(d, held < 0 ? writes[d] % 3 : (held + 1) % 3, copy));
            }
        }
        return perform(acts, () -> {
            now = copy;
            copied = sameMove ? copied : 0;
            return answer;
        });
    }

    private int start() {
        List<Stamped> able = plans.keySet().stream()
                .filter(c -> 2 * present.stream().filter(d -> List.of(slots[d]).contains(c)).count() > diskCount)
                .sorted(Comparator.comparingInt(c -> -c.number())).toList();
        if (able.isEmpty()) {
            return -3;
        }
        Stamped chosen = able.get(0);
        sawTie |= able.size() > 1 && able.get(1).number() == chosen.number();
        List<Act> acts = new ArrayList<>();
        present.stream().sorted().forEach(d -> {
            for (int k = 0; k < 3; k++) {
                int slot = k;
                if (slots[d][k].number() > chosen.number()) {
                    acts.add(new Act(() -> slots[d][slot] = EMPTY, () -> { }));
                }
            }
            if (!List.of(slots[d]).contains(chosen)) {
                acts.add(put(d, writes[d] % 3, chosen));
            }
        });
        return perform(acts, () -> {
            now = chosen;
            copied = 0;
            return chosen.number();
        });
    }

    private int perform(List<Act> acts, Supplier<Integer> then) {
        for (Act act : acts) {
            if (armed != null && armed == 0) {
                act.stopped().run();
                armed = null;
                now = null;
                return -7;
            }
            armed = armed == null ? null : Integer.valueOf(armed - 1);
            act.made().run();
        }
        return then.get();
    }
}
