import java.util.Random;

/** Calls drawn from a fixed seed: mostly fit ones, now and then one at an edge or far beyond it. */
final class AnyCalls {
    private static final String[] COMMON = {
        "create", "create", "extend", "reduce", "move", "move", "step", "step", "step", "step", "step", "cancel",
        "read", "write", "write", "write", "pull", "plug", "plug", "plug", "arm", "crash",
        "activate", "activate", "activate", "where", "rows", "free", "moving", "sequence", "slot"};

    private final Random random;
    private final boolean calm;
    /** Narrow runs keep to few volumes, extents and blocks, so that writes often meet the move. */
    private final boolean narrow;

    AnyCalls(long seed) {
        random = new Random(seed);
        calm = random.nextInt(3) != 0;
        narrow = random.nextInt(3) == 0;
    }

    /** Also beyond what the document takes as it is. */
    int disks() {
        return random.nextInt(8);
    }

    int extents() {
        return random.nextInt(13);
    }

    /** Calm runs have fewer stops and disks away, so that moves come further. */
    String name() {
        String name = COMMON[random.nextInt(COMMON.length)];
        boolean stops = name.equals("arm") || name.equals("crash") || name.equals("pull");
        return calm && stops && random.nextInt(8) != 0 ? "step" : name;
    }

    int[] arguments(String name) {
        switch (name) {
            case "create": return new int[] {odd(1, 4), odd(1, 4), odd(1, 3)};
            case "extend":
            case "reduce": return new int[] {odd(0, 3), odd(1, 2)};
            case "move": return new int[] {odd(0, mostVolume()), odd(0, narrow ? 1 : 5), odd(0, 4)};
            case "read": return new int[] {odd(0, mostVolume()), odd(0, mostBlock())};
            case "write": return new int[] {odd(0, mostVolume()), odd(0, mostBlock()), odd(0, 1000)};
            case "where": return new int[] {odd(0, 3), odd(0, 11)};
            case "rows": return new int[] {odd(0, 3)};
            case "pull":
            case "plug":
            case "free": return new int[] {odd(0, 4)};
            case "arm": return new int[] {odd(0, narrow ? 3 : 9)};
            case "slot": return new int[] {odd(0, 4), odd(0, 2)};
            default: return new int[0];
        }
    }

    private int mostVolume() {
        return narrow ? 0 : 3;
    }

    private int mostBlock() {
        return narrow ? 5 : 20;
    }

    private int odd(int least, int most) {
        switch (random.nextInt(60)) {
            case 0: return least - 1;
            case 1: return most + 1;
            case 2: return random.nextInt();
            case 3: return random.nextBoolean() ? Integer.MAX_VALUE : Integer.MIN_VALUE;
            case 4: return random.nextInt(130);
            default: return least + random.nextInt(most - least + 1);
        }
    }
}
