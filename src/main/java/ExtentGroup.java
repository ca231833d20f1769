import java.util.Arrays;

/**
 * A group of disks whose extents are put together to volumes. The map of what belongs to whom is kept
 * in numbered copies on every disk, so that the group can start again from one that a quorum holds.
 *
 * An extent of a disk is named by its place, 16 * disk + extent, as where() answers it.
 */
public final class ExtentGroup {
    public static final int BAD = -1;
    public static final int DOWN = -2;
    public static final int FEW = -3;
    public static final int BUSY = -4;
    public static final int SPACE = -5;
    public static final int MISSING = -6;
    public static final int STOPPED = -7;
    public static final int IDLE = -8;
    public static final int UP = -9;
    public static final int MANY = -10;
    public static final int TORN = -11;

    private static final int CELLS = 4;
    private static final int SLOTS = 3;
    private static final int VOLUMES = 4;
    private static final int MOST_WIDTH = 4;
    private static final int MOST_EXTENTS = 12;
    private static final int PLACES = 16;
    private static final int MOST_ARMED = 100;
    private static final int NOT_ARMED = -1;
    private static final int NONE = -1;

    private final int extentCount;
    private final Disk[] disks;
    /** For each disk a bit for each extent in use: reckoned anew by every call that asks for room. */
    private final int[] taken;
    private Copy present;
    /** How many cells the present map's move has copied; kept beside the map, since no copy holds it. */
    private int copied;
    private int lastStamp;
    private boolean up;
    private int actsBeforeStop;

    public ExtentGroup(int disks, int extents) {
        int diskCount = Math.min(Math.max(disks, 2), 5);
        extentCount = Math.min(Math.max(extents, 2), 10);
        Copy first = new Copy(1, 1, new Layout(new Volume[VOLUMES], null));
        this.disks = new Disk[diskCount];
        for (int d = 0; d < diskCount; d++) {
            this.disks[d] = new Disk(extentCount, first);
        }
        taken = new int[diskCount];
        present = first;
        copied = 0;
        lastStamp = first.stamp;
        up = true;
        actsBeforeStop = NOT_ARMED;
    }

    public int create(int width, int chunk, int rows) {
        if (!up) {
            return DOWN;
        }
        if (!isShape(width, chunk) || rows < 1 || rows > MOST_EXTENTS / width) {
            return BAD;
        }
        if (isFew()) {
            return FEW;
        }
        int number = present.layout.leastAbsent();
        if (number == NONE) {
            return MANY;
        }
        Volume made = new Volume(width, chunk, rows, new int[width * rows]);
        if (!takeRows(made, 0)) {
            return SPACE;
        }
        return commit(present.layout.withVolume(number, made)) ? number : STOPPED;
    }

    public int extend(int volume, int rows) {
        if (!up) {
            return DOWN;
        }
        Volume old = present.layout.volumeAt(volume);
        if (old == null || rows < 1 || rows > MOST_EXTENTS / old.width - old.rowCount) {
            return BAD;
        }
        if (isFew()) {
            return FEW;
        }
        if (isMoving(volume)) {
            return BUSY;
        }
        Volume longer = old.withRows(old.rowCount + rows);
        if (!takeRows(longer, old.rowCount)) {
            return SPACE;
        }
        return commit(present.layout.withVolume(volume, longer)) ? longer.rowCount : STOPPED;
    }

    public int reduce(int volume, int rows) {
        if (!up) {
            return DOWN;
        }
        Volume old = present.layout.volumeAt(volume);
        if (old == null || rows < 1 || rows > old.rowCount) {
            return BAD;
        }
        if (isFew()) {
            return FEW;
        }
        if (isMoving(volume)) {
            return BUSY;
        }
        int left = old.rowCount - rows;
        Volume shorter = left == 0 ? null : old.withRows(left);
        return commit(present.layout.withVolume(volume, shorter)) ? left : STOPPED;
    }

    public int move(int volume, int extent, int disk) {
        if (!up) {
            return DOWN;
        }
        Volume moved = present.layout.volumeAt(volume);
        if (moved == null || !moved.hasExtent(extent) || !isDisk(disk)) {
            return BAD;
        }
        if (isFew()) {
            return FEW;
        }
        if (present.layout.move != null) {
            return BUSY;
        }
        int source = moved.places[extent];
        if (!diskOf(source).isPresent || !disks[disk].isPresent) {
            return MISSING;
        }
        markTaken();
        int target = leastFree(disk);
        if (target == NONE) {
            return SPACE;
        }
        if (!commit(present.layout.withMove(new Move(volume, extent, source, target)))) {
            return STOPPED;
        }
        copied = 0;
        return 0;
    }

    public int step() {
        if (!up) {
            return DOWN;
        }
        Move move = present.layout.move;
        if (move == null) {
            return IDLE;
        }
        if (isFew()) {
            return FEW;
        }
        if (!diskOf(move.source).isPresent || !diskOf(move.target).isPresent) {
            return MISSING;
        }
        if (copied == CELLS) {
            return commit(present.layout.withMoveDone()) ? CELLS : STOPPED;
        }
        if (!putCell(move.target, copied, cellAt(move.source, copied))) {
            return STOPPED;
        }
        copied++;
        return CELLS - copied;
    }

    public int cancel() {
        if (!up) {
            return DOWN;
        }
        if (present.layout.move == null) {
            return IDLE;
        }
        if (isFew()) {
            return FEW;
        }
        return commit(present.layout.withMove(null)) ? 0 : STOPPED;
    }

    public int read(int volume, int block) {
        if (!up) {
            return DOWN;
        }
        Volume asked = present.layout.volumeAt(volume);
        if (asked == null || !asked.hasBlock(block)) {
            return BAD;
        }
        int place = asked.places[asked.extentOf(block)];
        return diskOf(place).isPresent ? cellAt(place, asked.cellOf(block)) : MISSING;
    }

    public int write(int volume, int block, int v) {
        if (!up) {
            return DOWN;
        }
        Volume asked = present.layout.volumeAt(volume);
        if (asked == null || !asked.hasBlock(block) || v < 0) {
            return BAD;
        }
        int extent = asked.extentOf(block);
        int cell = asked.cellOf(block);
        int place = asked.places[extent];
        int second = copiedTo(volume, extent, cell);
        if (!diskOf(place).isPresent || second != NONE && !diskOf(second).isPresent) {
            return MISSING;
        }
        if (!putCell(place, cell, v)) {
            return STOPPED;
        }
        if (second == NONE) {
            return 1;
        }
        return putCell(second, cell, v) ? 2 : STOPPED;
    }

    public boolean pull(int disk) {
        if (!isDisk(disk) || !disks[disk].isPresent) {
            return false;
        }
        disks[disk].isPresent = false;
        return true;
    }

    public boolean plug(int disk) {
        if (!isDisk(disk) || disks[disk].isPresent) {
            return false;
        }
        disks[disk].isPresent = true;
        return true;
    }

    public boolean arm(int k) {
        if (k < 0 || k > MOST_ARMED) {
            return false;
        }
        actsBeforeStop = k;
        return true;
    }

    public boolean crash() {
        if (!up) {
            return false;
        }
        goDown();
        return true;
    }

    public int activate() {
        if (up) {
            return UP;
        }
        Copy chosen = choose();
        if (chosen == null) {
            return FEW;
        }
        for (int d = 0; d < disks.length; d++) {
            if (disks[d].isPresent && !bringTo(disks[d], chosen)) {
                return STOPPED;
            }
        }
        present = chosen;
        copied = 0;
        up = true;
        return chosen.number;
    }

    public int where(int volume, int extent) {
        if (!up) {
            return DOWN;
        }
        Volume asked = present.layout.volumeAt(volume);
        return asked == null || !asked.hasExtent(extent) ? BAD : asked.places[extent];
    }

    public int rows(int volume) {
        if (!up) {
            return DOWN;
        }
        Volume asked = present.layout.volumeAt(volume);
        return asked == null ? BAD : asked.rowCount;
    }

    public int free(int disk) {
        if (!up) {
            return DOWN;
        }
        if (!isDisk(disk)) {
            return BAD;
        }
        markTaken();
        return freeCount(disk);
    }

    public int moving() {
        if (!up) {
            return DOWN;
        }
        Move move = present.layout.move;
        return move == null ? IDLE : 128 * move.volume + 16 * copied + move.extent;
    }

    public int sequence() {
        return up ? present.number : DOWN;
    }

    public int slot(int disk, int k) {
        if (!isDisk(disk) || k < 0 || k >= SLOTS) {
            return BAD;
        }
        if (disks[disk].isTorn[k]) {
            return TORN;
        }
        Copy held = disks[disk].copies[k];
        return held == null ? 0 : held.number;
    }

    private static boolean isShape(int width, int chunk) {
        return width >= 1 && width <= MOST_WIDTH && (chunk == 1 || chunk == 2 || chunk == 4);
    }

    private boolean isDisk(int disk) {
        return disk >= 0 && disk < disks.length;
    }

    private Disk diskOf(int place) {
        return disks[place / PLACES];
    }

    private boolean isFew() {
        int count = 0;
        for (int d = 0; d < disks.length; d++) {
            if (disks[d].isPresent) {
                count++;
            }
        }
        return !isQuorum(count);
    }

    private boolean isQuorum(int count) {
        return 2 * count > disks.length;
    }

    private boolean isMoving(int volume) {
        Move move = present.layout.move;
        return move != null && move.volume == volume;
    }

    /** The place that also has to hear of a write to this cell, lest the move loses it; or NONE. */
    private int copiedTo(int volume, int extent, int cell) {
        Move move = present.layout.move;
        if (move == null || move.volume != volume || move.extent != extent || cell >= copied) {
            return NONE;
        }
        return move.target;
    }

    private void goDown() {
        up = false;
        actsBeforeStop = NOT_ARMED;
    }

    /** Asked before every act: false when the armed stop comes in its place, and then the group is down. */
    private boolean mayAct() {
        if (actsBeforeStop == 0) {
            goDown();
            return false;
        }
        if (actsBeforeStop > 0) {
            actsBeforeStop--;
        }
        return true;
    }

    private int cellAt(int place, int cell) {
        return diskOf(place).cells[place % PLACES * CELLS + cell];
    }

    private boolean putCell(int place, int cell, int v) {
        if (!mayAct()) {
            return false;
        }
        diskOf(place).cells[place % PLACES * CELLS + cell] = v;
        return true;
    }

    private boolean putCopy(Disk disk, int k, Copy copy) {
        boolean whole = mayAct();
        disk.copies[k] = whole ? copy : null;
        disk.isTorn[k] = !whole;
        disk.nextSlot = (disk.nextSlot + 1) % SLOTS;
        return whole;
    }

    private boolean commit(Layout layout) {
        lastStamp++;
        Copy next = new Copy(present.number + 1, lastStamp, layout);
        for (int d = 0; d < disks.length; d++) {
            Disk disk = disks[d];
            if (disk.isPresent && !putCopy(disk, disk.slotBehind(present), next)) {
                return false;
            }
        }
        present = next;
        return true;
    }

    private Copy choose() {
        Copy best = null;
        for (int d = 0; d < disks.length; d++) {
            for (int k = 0; disks[d].isPresent && k < SLOTS; k++) {
                Copy held = disks[d].copies[k];
                boolean greater = held != null && (best == null || held.number > best.number);
                if (greater && isQuorum(presentHolders(held))) {
                    best = held;
                }
            }
        }
        return best;
    }

    private int presentHolders(Copy copy) {
        int count = 0;
        for (int d = 0; d < disks.length; d++) {
            if (disks[d].isPresent && disks[d].slotWith(copy) != NONE) {
                count++;
            }
        }
        return count;
    }

    private boolean bringTo(Disk disk, Copy chosen) {
        for (int k = 0; k < SLOTS; k++) {
            Copy held = disk.copies[k];
            if (held != null && held.number > chosen.number) {
                if (!mayAct()) {
                    return false;
                }
                disk.copies[k] = null;
            }
        }
        return disk.slotWith(chosen) != NONE || putCopy(disk, disk.nextSlot, chosen);
    }

    private void markTaken() {
        Arrays.fill(taken, 0);
        for (int number = 0; number < VOLUMES; number++) {
            Volume volume = present.layout.volumeAt(number);
            for (int e = 0; volume != null && e < volume.places.length; e++) {
                take(volume.places[e]);
            }
        }
        if (present.layout.move != null) {
            take(present.layout.move.target);
        }
    }

    private void take(int place) {
        taken[place / PLACES] |= 1 << place % PLACES;
    }

    private int freeCount(int disk) {
        return extentCount - Integer.bitCount(taken[disk]);
    }

    /** The place of the disk's least free extent, or NONE. */
    private int leastFree(int disk) {
        for (int e = 0; e < extentCount; e++) {
            if ((taken[disk] & 1 << e) == 0) {
                return PLACES * disk + e;
            }
        }
        return NONE;
    }

    /** Gives places to the rows of a volume, still to be committed, from one row on; false without room. */
    private boolean takeRows(Volume volume, int firstRow) {
        markTaken();
        for (int row = firstRow; row < volume.rowCount; row++) {
            int picked = pickDisks(volume.width);
            if (picked == 0) {
                return false;
            }
            takeRow(picked, volume.places, row * volume.width);
        }
        return true;
    }

    /** A bit for each of the disks that a row takes; 0 when there is no room for it. */
    private int pickDisks(int width) {
        int picked = 0;
        for (int i = 0; i < width; i++) {
            int disk = roomiest(picked);
            if (disk == NONE) {
                return 0;
            }
            picked |= 1 << disk;
        }
        return picked;
    }

    private int roomiest(int picked) {
        int best = NONE;
        int most = 0;
        for (int d = 0; d < disks.length; d++) {
            boolean eligible = disks[d].isPresent && (picked & 1 << d) == 0;
            if (eligible && freeCount(d) > most) {
                best = d;
                most = freeCount(d);
            }
        }
        return best;
    }

    private void takeRow(int picked, int[] places, int from) {
        int at = from;
        for (int d = 0; d < disks.length && at < places.length; d++) {
            if ((picked & 1 << d) != 0) {
                places[at] = leastFree(d);
                take(places[at]);
                at++;
            }
        }
    }

    private static final class Disk {
        final int[] cells;
        /** What the slots hold: null when the slot is empty or torn. */
        final Copy[] copies;
        final boolean[] isTorn;
        /** The number of acts that wrote copies to this disk, mod 3: so it is a slot after any number of them. */
        int nextSlot;
        boolean isPresent;

        Disk(int extents, Copy first) {
            cells = new int[extents * CELLS];
            copies = new Copy[SLOTS];
            isTorn = new boolean[SLOTS];
            copies[0] = first;
            nextSlot = 1;
            isPresent = true;
        }

        int slotWith(Copy copy) {
            for (int k = 0; k < SLOTS; k++) {
                if (copies[k] != null && copies[k].isSame(copy)) {
                    return k;
                }
            }
            return NONE;
        }

        int slotBehind(Copy copy) {
            int k = slotWith(copy);
            return k == NONE ? nextSlot : (k + 1) % SLOTS;
        }
    }

    private static final class Copy {
        final int number;
        final int stamp;
        final Layout layout;

        Copy(int number, int stamp, Layout layout) {
            this.number = number;
            this.stamp = stamp;
            this.layout = layout;
        }

        boolean isSame(Copy other) {
            return number == other.number && stamp == other.stamp;
        }
    }

    /** A map. It is never changed once it is committed: the slots of many disks share it. */
    private static final class Layout {
        final Volume[] volumes;
        final Move move;

        Layout(Volume[] volumes, Move move) {
            this.volumes = volumes;
            this.move = move;
        }

        Volume volumeAt(int number) {
            return number >= 0 && number < VOLUMES ? volumes[number] : null;
        }

        int leastAbsent() {
            for (int number = 0; number < VOLUMES; number++) {
                if (volumes[number] == null) {
                    return number;
                }
            }
            return NONE;
        }

        Layout withVolume(int number, Volume volume) {
            return new Layout(volumesWith(number, volume), move);
        }

        Layout withMove(Move begun) {
            return new Layout(volumes, begun);
        }

        Layout withMoveDone() {
            Volume old = move == null ? null : volumeAt(move.volume);
            if (old == null) {
                return this;
            }
            return new Layout(volumesWith(move.volume, old.withPlace(move.extent, move.target)), null);
        }

        private Volume[] volumesWith(int number, Volume volume) {
            Volume[] changed = new Volume[VOLUMES];
            for (int i = 0; i < VOLUMES; i++) {
                changed[i] = i == number ? volume : volumes[i];
            }
            return changed;
        }
    }

    private static final class Volume {
        final int width;
        final int chunk;
        final int rowCount;
        /** By extent number. */
        final int[] places;

        Volume(int width, int chunk, int rowCount, int[] places) {
            this.width = width;
            this.chunk = chunk;
            this.rowCount = rowCount;
            this.places = places;
        }

        /** A volume with places of its own, those of new rows still to be taken. */
        Volume withRows(int count) {
            return new Volume(width, chunk, count, Arrays.copyOf(places, width * count));
        }

        Volume withPlace(int extent, int place) {
            Volume changed = withRows(rowCount);
            if (hasExtent(extent)) {
                changed.places[extent] = place;
            }
            return changed;
        }

        boolean hasExtent(int extent) {
            return extent >= 0 && extent < places.length;
        }

        boolean hasBlock(int block) {
            return block >= 0 && block < CELLS * places.length;
        }

        int extentOf(int block) {
            int row = block / (CELLS * width);
            int inRow = block % (CELLS * width);
            return width * row + inRow / chunk % width;
        }

        int cellOf(int block) {
            int inRow = block % (CELLS * width);
            return inRow / chunk / width * chunk + inRow % chunk;
        }
    }

    private static final class Move {
        final int volume;
        /** The source's number in its volume, as moving() tells it. */
        final int extent;
        final int source;
        final int target;

        Move(int volume, int extent, int source, int target) {
            this.volume = volume;
            this.extent = extent;
            this.source = source;
            this.target = target;
        }
    }
}
