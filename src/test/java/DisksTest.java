/** Promises 10, pull, and 11, plug. */
public final class DisksTest {
    private static final String SOME =
            "create 2 1 2 -> 0; write 0 0 7 -> 1; move 0 1 2 -> 0; step -> 3; arm 3 -> true";

    public static void main(String[] args) {
        Script s = new Script();
        pulled(s);
        plugged(s);
        s.end();
    }

    private static void pulled(Script s) {
        s.run("a disk goes away: true", 3, 3,
                "pull 0 -> true; create 3 1 1 -> SPACE; create 2 1 1 -> 0; where 0 0 -> 16; slot 0 1 -> 0");
        s.run("the first and the last disk", 5, 3, "pull 0 -> true; pull 4 -> true");
        s.run("whatever state the group is in: down", 3, 3,
                "create 1 1 1 -> 0; crash -> true; pull 0 -> true; pull 0 -> false; pull 1 -> true; activate -> FEW",
                "plug 0 -> true; activate -> 2");
        s.run("whatever state the group is in: without a quorum", 2, 3,
                "create 1 1 1 -> 0; pull 0 -> true; pull 1 -> true; sequence -> 2; rows 0 -> 1; slot 0 1 -> 2",
                "plug 0 -> true; plug 1 -> true; extend 0 1 -> 2");
        s.run("whatever state the group is in: armed and with a move", 3, 3, SOME,
                "pull 2 -> true; moving -> 17; sequence -> 3; step -> MISSING");
        s.run("no act, so no stop", 3, 3, "arm 0 -> true; pull 0 -> true; plug 0 -> true; sequence -> 1");
        s.refuses("false when there is no such disk", 3, 3, SOME,
                "pull 3 -> false; pull -1 -> false; pull 4 -> false; pull 5 -> false; pull MAX -> false",
                "pull MIN -> false");
        s.refuses("false when it is away", 3, 3, SOME + "; pull 1 -> true", "pull 1 -> false");
        s.refuses("false when it is away and the group is down", 3, 3, SOME + "; pull 1 -> true; crash -> true",
                "pull 1 -> false; pull 3 -> false");
    }

    private static void plugged(Script s) {
        s.run("a disk that was away is present again: true", 3, 3,
                "pull 0 -> true; pull 1 -> true; create 1 1 1 -> FEW; plug 0 -> true; create 1 1 1 -> 0",
                "where 0 0 -> 0");
        s.run("as it was: its cells", 3, 3,
                "create 1 1 1 -> 0; write 0 0 5 -> 1; pull 0 -> true; read 0 0 -> MISSING; plug 0 -> true",
                "read 0 0 -> 5");
        s.run("as it was: its slots", 3, 3,
                "create 1 1 1 -> 0; pull 0 -> true; create 1 1 1 -> 1; slot 0 1 -> 2; slot 0 2 -> 0; slot 1 2 -> 3",
                "plug 0 -> true; slot 0 0 -> 1; slot 0 1 -> 2; slot 0 2 -> 0; sequence -> 3");
        s.run("as it was: how many copies it was given", 3, 6,
                "pull 2 -> true; create 1 1 1 -> 0; extend 0 1 -> 2; extend 0 1 -> 3; plug 2 -> true",
                "extend 0 1 -> 4; slot 2 1 -> 5; slot 2 0 -> 1; slot 2 2 -> 0");
        s.run("down too", 3, 3,
                "pull 1 -> true; pull 2 -> true; crash -> true; activate -> FEW; plug 2 -> true; plug 2 -> false",
                "activate -> 1");
        s.refuses("false when there is no such disk", 3, 3, SOME + "; pull 2 -> true",
                "plug 3 -> false; plug -1 -> false; plug 4 -> false; plug 5 -> false; plug MAX -> false",
                "plug MIN -> false");
        s.refuses("false when it is present", 3, 3, SOME + "; pull 2 -> true; plug 2 -> true; pull 1 -> true",
                "plug 0 -> false; plug 2 -> false");
        s.refuses("false when it is present and the group is down", 3, 3, SOME + "; crash -> true",
                "plug 0 -> false; plug 3 -> false");
    }
}
