/** Promises 14 activate, 19 sequence, 20 slot, and the committing that all of them see. */
public final class CopiesTest {
    public static void main(String[] args) {
        Script s = new Script();
        slots(s);
        committing(s);
        chosen(s);
        cleaned(s);
        refused(s);
        stopped(s);
        s.end();
    }

    private static void slots(Script s) {
        s.run("slots are used in turn", 2, 5,
                "create 1 1 1 -> 0; slot 0 1 -> 2; slot 1 1 -> 2; extend 0 1 -> 2; slot 0 2 -> 3; extend 0 1 -> 3; slot 0 0 -> 4",
                "slot 0 1 -> 2; slot 1 0 -> 4; sequence -> 4");
        s.run("slot: BAD", 3, 5,
                "slot -1 0 -> BAD; slot 3 0 -> BAD; slot 0 -1 -> BAD; slot 0 3 -> BAD; slot MAX MIN -> BAD; slot 2 2 -> 0",
                "crash -> true; slot 3 0 -> BAD; slot 0 0 -> 1; slot 0 1 -> 0; pull 0 -> true; slot 0 0 -> 1; slot 0 3 -> BAD");
        s.run("sequence", 3, 5,
                "sequence -> 1; create 1 1 1 -> 0; sequence -> 2; write 0 0 1 -> 1; read 0 0 -> 1; sequence -> 2; pull 0 -> true",
                "pull 1 -> true; sequence -> 2; crash -> true; sequence -> DOWN");
    }

    private static void committing(Script s) {
        s.run("a disk without the present copy takes the slot of its count", 3, 6,
                "pull 2 -> true; create 1 1 1 -> 0; plug 2 -> true; extend 0 1 -> 2; slot 2 0 -> 1; slot 2 1 -> 3; slot 0 2 -> 3",
                "extend 0 1 -> 3; slot 2 2 -> 4; slot 0 0 -> 4; pull 2 -> true; extend 0 1 -> 4; plug 2 -> true; extend 0 1 -> 5",
                "slot 2 0 -> 6; slot 2 1 -> 3; slot 2 2 -> 4");
        s.run("behind the present copy although the count says otherwise", 3, 6,
                "create 1 1 1 -> 0; arm 0 -> true; extend 0 1 -> STOPPED; slot 0 2 -> TORN; activate -> 2; extend 0 1 -> 2",
                "slot 0 2 -> 3; slot 0 0 -> 1; extend 0 1 -> 3; slot 0 0 -> 4");
        s.run("torn copies count", 3, 6,
                "create 1 1 1 -> 0; arm 0 -> true; extend 0 1 -> STOPPED; activate -> 2; pull 0 -> true; extend 0 1 -> 2; plug 0 -> true",
                "extend 0 1 -> 3; slot 0 0 -> 4; slot 0 1 -> 2; slot 0 2 -> TORN");
        s.run("copies written by activate count", 3, 6,
                "pull 2 -> true; create 1 1 1 -> 0; crash -> true; plug 2 -> true; activate -> 2; slot 2 1 -> 2; pull 2 -> true",
                "extend 0 1 -> 2; plug 2 -> true; crash -> true; activate -> 3; slot 2 2 -> 3; pull 2 -> true; extend 0 1 -> 3",
                "plug 2 -> true; extend 0 1 -> 4; slot 2 0 -> 5");
        s.run("emptied slots do not count", 3, 6,
                "create 1 1 1 -> 0; arm 1 -> true; extend 0 1 -> STOPPED; activate -> 2; slot 0 2 -> 0; pull 0 -> true; extend 0 1 -> 2",
                "plug 0 -> true; extend 0 1 -> 3; slot 0 0 -> 4; slot 0 2 -> 0");
    }

    private static void chosen(Script s) {
        s.run("the greatest that a quorum holds", 3, 6,
                "create 1 1 1 -> 0; extend 0 1 -> 2; crash -> true; activate -> 3; rows 0 -> 2; sequence -> 3; activate -> UP");
        s.run("a present quorum, not all disks", 5, 6,
                "create 1 1 1 -> 0; pull 3 -> true; pull 4 -> true; extend 0 1 -> 2; crash -> true; pull 0 -> true; plug 3 -> true",
                "plug 4 -> true; activate -> 2; rows 0 -> 1; slot 1 2 -> 0; slot 2 2 -> 0; slot 0 2 -> 3");
        s.run("same number, other stamp, is another copy", 5, 6,
                "create 1 1 1 -> 0; arm 1 -> true; extend 0 1 -> STOPPED; pull 0 -> true; activate -> 2; extend 0 3 -> 4",
                "crash -> true; plug 0 -> true; pull 3 -> true; pull 4 -> true; slot 0 2 -> 3; slot 1 2 -> 3; slot 2 2 -> 3",
                "activate -> 2; rows 0 -> 1");
        s.run("same number, other stamp: the quorum's is chosen, the other stays", 3, 6,
                "create 1 1 1 -> 0; arm 1 -> true; extend 0 1 -> STOPPED; pull 0 -> true; activate -> 2; extend 0 3 -> 4; crash -> true",
                "plug 0 -> true; activate -> 3; rows 0 -> 4; slot 0 0 -> 3; slot 0 1 -> 2; slot 0 2 -> 3; extend 0 1 -> 5; slot 0 1 -> 4");
        s.run("half of an even number is no quorum", 4, 6,
                "create 1 1 1 -> 0; crash -> true; pull 0 -> true; pull 1 -> true; activate -> FEW; plug 0 -> true; activate -> 2");
        s.run("the map of the chosen copy, all of it", 3, 6,
                "create 2 2 2 -> 0; create 1 4 1 -> 1; write 0 5 55 -> 1; move 0 2 2 -> 0; step -> 3; crash -> true; activate -> 4",
                "where 0 0 -> 0; where 0 1 -> 16; where 0 2 -> 1; where 0 3 -> 32; where 1 0 -> 17; moving -> 2; read 0 5 -> 55; free 2 -> 4");
    }

    private static void cleaned(Script s) {
        s.run("greater copies are emptied, those away stay", 3, 6,
                "create 1 1 1 -> 0; pull 2 -> true; extend 0 1 -> 2; extend 0 1 -> 3; crash -> true; slot 1 0 -> 4; slot 1 1 -> 2; slot 1 2 -> 3",
                "pull 0 -> true; plug 2 -> true; activate -> 2; slot 1 0 -> 0; slot 1 1 -> 2; slot 1 2 -> 0; slot 0 0 -> 4; slot 0 2 -> 3",
                "plug 0 -> true; crash -> true; activate -> 2; slot 0 0 -> 0; slot 0 1 -> 2; slot 0 2 -> 0");
        s.run("no act where nothing is to be done", 3, 6,
                "create 1 1 1 -> 0; crash -> true; arm 0 -> true; activate -> 2; slot 0 2 -> 0; slot 0 0 -> 1; write 0 0 1 -> STOPPED");
        s.run("torn slots stay", 3, 6,
                "arm 0 -> true; create 1 1 1 -> STOPPED; activate -> 1; slot 0 1 -> TORN; slot 0 0 -> 1; slot 0 2 -> 0");
    }

    private static void refused(Script s) {
        s.run("UP before FEW", 3, 6, "pull 0 -> true; pull 1 -> true; activate -> UP; crash -> true; activate -> FEW; sequence -> DOWN");
        s.run("FEW when the quorum that is present has no copy in common", 3, 6,
                "create 1 1 1 -> 0; extend 0 1 -> 2; pull 2 -> true; extend 0 1 -> 3; extend 0 1 -> 4; extend 0 1 -> 5; crash -> true",
                "pull 0 -> true; plug 2 -> true; activate -> FEW; slot 1 0 -> 4; slot 1 1 -> 5; slot 1 2 -> 6; slot 2 2 -> 3; arm 0 -> true",
                "activate -> FEW; plug 0 -> true; activate -> STOPPED; slot 2 0 -> TORN; activate -> 6; slot 2 1 -> 6; slot 2 2 -> 3");
    }

    private static void stopped(Script s) {
        s.run("at an emptying, which is not made", 3, 6,
                "create 1 1 1 -> 0; arm 1 -> true; extend 0 1 -> STOPPED; arm 0 -> true; activate -> STOPPED; slot 0 2 -> 3; sequence -> DOWN",
                "activate -> 2; slot 0 2 -> 0");
        s.run("at a write, which leaves a torn slot and counts", 3, 6,
                "pull 2 -> true; create 1 1 1 -> 0; crash -> true; plug 2 -> true; arm 0 -> true; activate -> STOPPED; slot 2 1 -> TORN",
                "activate -> 2; slot 2 1 -> TORN; slot 2 2 -> 2; slot 2 0 -> 1");
        s.run("between acts: what was done stays", 3, 6,
                "create 1 1 1 -> 0; pull 2 -> true; extend 0 1 -> 2; extend 0 1 -> 3; crash -> true; pull 0 -> true; plug 2 -> true",
                "arm 1 -> true; activate -> STOPPED; slot 1 0 -> 0; slot 1 2 -> 3; arm 1 -> true; activate -> 2; slot 1 2 -> 0; extend 0 1 -> STOPPED",
                "slot 1 2 -> TORN; slot 2 2 -> 0");
        s.run("a commit that tears the only other copy", 2, 6,
                "arm 1 -> true; create 1 1 1 -> STOPPED; slot 0 1 -> 2; slot 1 1 -> TORN; activate -> 1; slot 0 1 -> 0; create 1 1 1 -> 0",
                "slot 0 1 -> 2; slot 1 1 -> 2");
    }
}
