/** Promise 1: a new object. */
public final class NewObjectTest {
    public static void main(String[] args) {
        Script s = new Script();
        size(s, 3, 4, 3, 4);
        size(s, 2, 2, 2, 2);
        size(s, 5, 10, 5, 10);
        size(s, 1, 1, 2, 2);
        size(s, 6, 11, 5, 10);
        size(s, 0, 0, 2, 2);
        size(s, -7, -1, 2, 2);
        size(s, Integer.MIN_VALUE, Integer.MAX_VALUE, 2, 10);
        size(s, Integer.MAX_VALUE, Integer.MIN_VALUE, 5, 2);
        s.run("at first", 3, 4,
                "sequence -> 1; moving -> IDLE; activate -> UP; rows 0 -> BAD; rows 3 -> BAD",
                "slot 0 0 -> 1; slot 1 0 -> 1; slot 2 0 -> 1; slot 0 1 -> 0; slot 2 2 -> 0",
                "plug 0 -> false; plug 1 -> false; plug 2 -> false",
                "create 3 4 4 -> 0; read 0 0 -> 0; read 0 21 -> 0; read 0 47 -> 0");
        s.run("nothing is armed at first", 2, 2, "create 1 1 1 -> 0; write 0 0 5 -> 1; crash -> true; activate -> 2");
        s.end();
    }

    private static void size(Script s, int disks, int extents, int wantDisks, int wantExtents) {
        String made = "new ExtentGroup(" + disks + ", " + extents + "): ";
        ExtentGroup group = new ExtentGroup(disks, extents);
        for (int d = 0; d < wantDisks; d++) {
            s.due(made + "free " + d, group.free(d), wantExtents);
        }
        s.due(made + "free " + wantDisks, group.free(wantDisks), ExtentGroup.BAD);
    }
}
