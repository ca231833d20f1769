/** Promise 1, a new object, and what the terms say of its first state. */
public final class NewObjectTest {
    public static void main(String[] args) {
        Script s = new Script();
        disks(s);
        extents(s);
        atFirst(s);
        s.end();
    }

    private static void disks(Script s) {
        for (int few : new int[] {1, 0, -1, -2, Integer.MIN_VALUE}) {
            size(s, "disks less than 2 counts as 2", few, 4, 2, 4);
        }
        for (int many : new int[] {6, 7, 16, Integer.MAX_VALUE}) {
            size(s, "disks more than 5 as 5", many, 4, 5, 4);
        }
        for (int disks = 2; disks <= 5; disks++) {
            size(s, "so many disks", disks, 4, disks, 4);
        }
    }

    private static void extents(Script s) {
        for (int few : new int[] {1, 0, -1, -2, Integer.MIN_VALUE}) {
            size(s, "extents less than 2 counts as 2", 3, few, 3, 2);
        }
        for (int many : new int[] {11, 12, 16, Integer.MAX_VALUE}) {
            size(s, "extents more than 10 as 10", 3, many, 3, 10);
        }
        for (int extents = 2; extents <= 10; extents++) {
            size(s, "so many extents each", 3, extents, 3, extents);
        }
        size(s, "both too small", Integer.MIN_VALUE, Integer.MIN_VALUE, 2, 2);
        size(s, "both too large", Integer.MAX_VALUE, Integer.MAX_VALUE, 5, 10);
    }

    private static void size(Script s, String title, int disks, int extents, int wantDisks, int wantExtents) {
        String made = title + ": new ExtentGroup(" + disks + ", " + extents + "): ";
        ExtentGroup group = new ExtentGroup(disks, extents);
        for (int d = 0; d < wantDisks; d++) {
            s.due(made + "free " + d, group.free(d), wantExtents);
            s.due(made + "slot " + d + " 0", group.slot(d, 0), 1);
        }
        s.due(made + "free " + wantDisks, group.free(wantDisks), ExtentGroup.BAD);
        s.due(made + "slot " + wantDisks + " 0", group.slot(wantDisks, 0), ExtentGroup.BAD);
        s.due(made + "pull " + wantDisks, group.pull(wantDisks) ? 1 : 0, 0);
        s.due(made + "pull the last", group.pull(wantDisks - 1) ? 1 : 0, 1);
    }

    private static void atFirst(Script s) {
        allCellsAreZero(s);
        s.run("all disks are present", 5, 4,
                "plug 0 -> false; plug 1 -> false; plug 2 -> false; plug 3 -> false; plug 4 -> false",
                "pull 0 -> true; pull 1 -> true; create 3 1 1 -> 0");
        s.run("slot 0 of each holds the copy with number 1; the others are empty", 3, 4,
                "slot 0 0 -> 1; slot 1 0 -> 1; slot 2 0 -> 1; slot 0 1 -> 0; slot 1 1 -> 0; slot 2 1 -> 0",
                "slot 0 2 -> 0; slot 1 2 -> 0; slot 2 2 -> 0");
        s.run("each slot 0 holds the same copy", 3, 4, "crash -> true; activate -> 1; sequence -> 1; slot 0 1 -> 0");
        s.run("whose map has no volumes", 3, 4,
                "rows 0 -> BAD; rows 1 -> BAD; rows 2 -> BAD; rows 3 -> BAD; where 0 0 -> BAD; read 0 0 -> BAD",
                "create 1 1 1 -> 0");
        s.run("nor a move", 3, 4, "moving -> IDLE; step -> IDLE; cancel -> IDLE");
        s.run("the group is UP with this copy as the present one", 3, 4, "activate -> UP; sequence -> 1");
        s.run("nothing is armed at first", 2, 2,
                "create 1 1 1 -> 0; write 0 0 5 -> 1; extend 0 1 -> 2; crash -> true; activate -> 3");
    }

    private static void allCellsAreZero(Script s) {
        ExtentGroup group = s.run("at first all cells are 0", 5, 9,
                "create 4 1 3 -> 0; create 4 1 3 -> 1; create 3 2 4 -> 2; create 3 4 3 -> 3");
        for (int volume = 0; volume < 4; volume++) {
            for (int block = 0; block < (volume < 3 ? 48 : 36); block++) {
                s.due("at first all cells are 0: read " + volume + " " + block, group.read(volume, block), 0);
            }
        }
        for (int disk = 0; disk < 5; disk++) {
            s.due("all cells were looked at: free " + disk, group.free(disk), 0);
        }
    }
}
