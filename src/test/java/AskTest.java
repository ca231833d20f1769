/** Promises 15, where; 16, rows; 17, free; 18, moving; 19, sequence; 20, slot. */
public final class AskTest {
    private static final String SOME = "create 2 1 1 -> 0; move 0 1 2 -> 0; step -> 3; arm 3 -> true";

    public static void main(String[] args) {
        Script s = new Script();
        where(s);
        rows(s);
        free(s);
        moving(s);
        sequence(s);
        slot(s);
        s.end();
    }

    private static void where(Script s) {
        s.run("16 * disk + extent", 3, 4,
                "create 2 1 2 -> 0; where 0 0 -> 0; where 0 1 -> 16; where 0 2 -> 1; where 0 3 -> 32");
        s.run("the last extent of the last disk", 5, 10,
                "pull 0 -> true; pull 1 -> true; create 3 1 4 -> 0; create 3 1 4 -> 1; create 3 1 2 -> 2",
                "where 2 5 -> 73; where 2 3 -> 41");
        s.run("the source, while its extent is being moved", 3, 4, SOME,
                "where 0 1 -> 16; step -> 2; step -> 1; where 0 1 -> 16");
        s.run("where: disks may be away", 3, 4, SOME,
                "pull 0 -> true; pull 1 -> true; pull 2 -> true; where 0 0 -> 0; where 0 1 -> 16");
        s.refuses("where: DOWN", 3, 4, SOME + "; crash -> true",
                "where 0 0 -> DOWN; where 1 0 -> DOWN; where 0 2 -> DOWN");
        s.refuses("where: BAD when there is no such volume", 3, 4, SOME,
                "where 1 0 -> BAD; where 3 0 -> BAD; where -1 0 -> BAD; where 4 0 -> BAD; where MAX 0 -> BAD",
                "where MIN 0 -> BAD");
        s.refuses("where: BAD when there is no such number", 3, 4, SOME,
                "where 0 2 -> BAD; where 0 -1 -> BAD; where 0 12 -> BAD; where 0 MAX -> BAD; where 0 MIN -> BAD");
        s.run("where: no number behind the twelfth", 5, 10,
                "create 1 1 12 -> 0; where 0 11 -> 18; where 0 12 -> BAD");
    }

    private static void rows(Script s) {
        s.run("how many rows a volume has", 5, 10,
                "create 4 1 1 -> 0; create 2 1 6 -> 1; create 1 1 12 -> 2; rows 0 -> 1; rows 1 -> 6; rows 2 -> 12");
        s.run("rows: disks may be away", 2, 4, "create 2 1 3 -> 0; pull 0 -> true; pull 1 -> true; rows 0 -> 3");
        s.refuses("rows: DOWN", 3, 4, SOME + "; crash -> true", "rows 0 -> DOWN; rows 1 -> DOWN; rows -1 -> DOWN");
        s.refuses("rows: BAD when there is no such volume", 3, 4, SOME,
                "rows 1 -> BAD; rows 3 -> BAD; rows -1 -> BAD; rows 4 -> BAD; rows 16 -> BAD; rows MAX -> BAD",
                "rows MIN -> BAD");
    }

    private static void free(Script s) {
        s.run("how many extents of a disk are free", 3, 4,
                "free 0 -> 4; create 2 1 1 -> 0; free 0 -> 3; free 1 -> 3; free 2 -> 4");
        s.run("all and none", 2, 2,
                "free 0 -> 2; free 1 -> 2; create 2 1 2 -> 0; free 0 -> 0; free 1 -> 0; reduce 0 2 -> 0",
                "free 1 -> 2");
        s.run("not free: the source and the target of a move", 3, 4, SOME, "free 0 -> 3; free 1 -> 3; free 2 -> 3");
        s.run("free: present or not", 3, 4, SOME,
                "pull 0 -> true; pull 2 -> true; free 0 -> 3; free 1 -> 3; free 2 -> 3");
        s.refuses("free: DOWN", 3, 4, SOME + "; crash -> true", "free 0 -> DOWN; free 3 -> DOWN; free -1 -> DOWN");
        s.refuses("free: BAD when there is no such disk", 3, 4, SOME,
                "free 3 -> BAD; free -1 -> BAD; free 4 -> BAD; free 5 -> BAD; free MAX -> BAD; free MIN -> BAD");
    }

    private static void moving(Script s) {
        s.run("128 * volume + 16 * copied cells + extent number: the least", 2, 2,
                "create 1 1 1 -> 0; move 0 0 1 -> 0; moving -> 0");
        s.run("128 * volume + 16 * copied cells + extent number: the greatest", 5, 10,
                "create 1 1 1 -> 0; create 1 1 1 -> 1; create 1 1 1 -> 2; create 1 2 12 -> 3; move 3 11 0 -> 0",
                "moving -> 395; step -> 3; moving -> 411; step -> 2; moving -> 427; step -> 1; moving -> 443",
                "step -> 0; moving -> 459; where 3 11 -> 66");
        s.run("the extent number is that in the volume", 3, 4,
                "create 1 1 4 -> 0; where 0 3 -> 1; move 0 3 2 -> 0; moving -> 3");
        s.run("moving: disks may be away", 3, 4, SOME,
                "pull 0 -> true; pull 1 -> true; pull 2 -> true; moving -> 17");
        s.refuses("moving: DOWN", 3, 4, SOME + "; crash -> true", "moving -> DOWN");
        s.run("moving: DOWN before IDLE", 3, 4, "crash -> true; moving -> DOWN");
        s.refuses("moving: IDLE when there is none", 3, 4, "create 1 1 1 -> 0; arm 0 -> true", "moving -> IDLE");
        s.run("moving: IDLE when there is none any more", 3, 4, SOME,
                "arm 100 -> true; step -> 2; step -> 1; step -> 0; step -> 4; moving -> IDLE");
        s.run("moving: IDLE when it was given up", 3, 4, SOME, "arm 100 -> true; cancel -> 0; moving -> IDLE");
    }

    private static void sequence(Script s) {
        s.run("the number of the present copy", 3, 4,
                "sequence -> 1; create 1 1 1 -> 0; sequence -> 2; extend 0 1 -> 2; sequence -> 3; reduce 0 1 -> 1",
                "sequence -> 4; move 0 0 1 -> 0; sequence -> 5; step -> 3; sequence -> 5; write 0 0 1 -> 2",
                "sequence -> 5; cancel -> 0; sequence -> 6");
        s.run("of an older copy, when that was chosen", 3, 4,
                "create 1 1 1 -> 0; arm 1 -> true; extend 0 1 -> STOPPED; activate -> 2; sequence -> 2");
        s.run("sequence: disks may be away", 2, 4,
                "create 1 1 1 -> 0; pull 0 -> true; pull 1 -> true; sequence -> 2");
        s.refuses("sequence: DOWN", 3, 4, SOME + "; crash -> true", "sequence -> DOWN");
        s.run("sequence: DOWN after a stop", 3, 4, "arm 0 -> true; create 1 1 1 -> STOPPED; sequence -> DOWN");
    }

    private static void slot(Script s) {
        s.run("the number of the copy in a slot", 3, 4,
                "create 1 1 1 -> 0; extend 0 1 -> 2; slot 0 0 -> 1; slot 0 1 -> 2; slot 0 2 -> 3; slot 2 2 -> 3");
        s.run("whatever state the group is in", 3, 4,
                "create 1 1 1 -> 0; crash -> true; slot 0 0 -> 1; slot 0 1 -> 2; slot 0 2 -> 0; slot 3 0 -> BAD");
        s.run("whatever state the disk is in", 3, 4,
                "create 1 1 1 -> 0; pull 0 -> true; slot 0 0 -> 1; slot 0 1 -> 2; slot 0 2 -> 0; slot 0 3 -> BAD");
        s.run("0 when it is empty", 3, 4, "slot 0 1 -> 0; slot 0 2 -> 0; slot 2 2 -> 0");
        s.run("0 when it was made empty", 3, 4,
                "arm 1 -> true; create 1 1 1 -> STOPPED; slot 0 1 -> 2; activate -> 1; slot 0 1 -> 0");
        s.run("TORN when it is torn", 3, 4,
                "arm 0 -> true; create 1 1 1 -> STOPPED; slot 0 1 -> TORN; pull 0 -> true; slot 0 1 -> TORN",
                "activate -> 1; slot 0 1 -> TORN");
        s.run("not torn any more when it is written again", 3, 4,
                "arm 0 -> true; create 1 1 1 -> STOPPED; activate -> 1; create 1 1 1 -> 0; slot 0 1 -> 2");
        s.refuses("slot: BAD when there is no such slot", 3, 4, SOME,
                "slot 0 3 -> BAD; slot 0 -1 -> BAD; slot 2 4 -> BAD; slot 0 MAX -> BAD; slot 0 MIN -> BAD");
        s.refuses("slot: BAD when there is no such disk", 3, 4, SOME,
                "slot 3 0 -> BAD; slot -1 0 -> BAD; slot 5 2 -> BAD; slot MAX 0 -> BAD; slot MIN 0 -> BAD");
        s.run("BAD although the group is down", 3, 4, "crash -> true; slot 0 3 -> BAD; slot 3 0 -> BAD");
    }
}
