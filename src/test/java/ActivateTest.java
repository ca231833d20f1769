/** Promise 14, activate. */
public final class ActivateTest {
    private static final String SOME = "create 1 1 1 -> 0; extend 0 1 -> 2; arm 3 -> true";
    /** Disk 0 holds copy 3 alone; the group is down. */
    private static final String ONE_GREATER = "create 1 1 1 -> 0; arm 1 -> true; extend 0 1 -> STOPPED";
    /** Disks 0 and 1 hold copies 4, 2, 3 in their slots, disk 2 holds 1 and 2; disk 0 is away, the group down. */
    private static final String TWO_GREATER =
            "create 1 1 1 -> 0; pull 2 -> true; extend 0 1 -> 2; extend 0 1 -> 3; crash -> true; "
            + "pull 0 -> true; plug 2 -> true";

    /** Disk 0 holds copies 1, 2 and 4, the others 3, which it has not; the group is down. */
    private static final String GREATER_BUT_NOT_CHOSEN =
            "create 1 1 1 -> 0; pull 0 -> true; extend 0 1 -> 2; plug 0 -> true; arm 1 -> true; "
            + "extend 0 1 -> STOPPED; slot 0 2 -> 4; slot 1 0 -> TORN";
    /** A quorum, disks 1 and 2, is present, but they have no copy in common; the group is down. */
    private static final String NOTHING_IN_COMMON =
            "create 1 1 1 -> 0; extend 0 1 -> 2; pull 2 -> true; extend 0 1 -> 3; extend 0 1 -> 4; extend 0 1 -> 5; "
            + "crash -> true; pull 0 -> true; plug 2 -> true; slot 1 0 -> 4; slot 1 1 -> 5; slot 1 2 -> 6; "
            + "slot 2 0 -> 1; slot 2 1 -> 2; slot 2 2 -> 3";

    public static void main(String[] args) {
        Script s = new Script();
        chosen(s);
        emptied(s);
        written(s);
        started(s);
        refused(s);
        stopped(s);
        s.end();
    }

    private static void chosen(Script s) {
        s.run("of the copies that a quorum holds, the one with the greatest number", 3, 6,
                "create 1 1 1 -> 0; extend 0 1 -> 2; slot 0 1 -> 2; slot 0 2 -> 3; crash -> true; activate -> 3",
                "rows 0 -> 2");
        s.run("not one with a greater number that is held by fewer", 3, 6, ONE_GREATER,
                "slot 0 2 -> 3; activate -> 2; rows 0 -> 1");
        s.run("so many as are a quorum: just more than half", 5, 6,
                "create 1 1 1 -> 0; arm 3 -> true; extend 0 1 -> STOPPED; slot 2 2 -> 3; slot 3 2 -> TORN",
                "activate -> 3; rows 0 -> 2");
        s.run("so many as are a quorum: half is too few", 4, 6,
                "create 1 1 1 -> 0; arm 2 -> true; extend 0 1 -> STOPPED; slot 1 2 -> 3; slot 2 2 -> TORN",
                "activate -> 2; rows 0 -> 1");
        s.run("present disks: those away do not count", 5, 6,
                "create 1 1 1 -> 0; pull 3 -> true; pull 4 -> true; extend 0 1 -> 2; crash -> true; pull 0 -> true",
                "plug 3 -> true; plug 4 -> true; slot 0 2 -> 3; slot 1 2 -> 3; slot 2 2 -> 3; activate -> 2",
                "rows 0 -> 1");
        s.run("each in any of its slots", 3, 6,
                "pull 2 -> true; create 1 1 1 -> 0; extend 0 1 -> 2; plug 2 -> true; extend 0 1 -> 3; slot 0 0 -> 4",
                "slot 1 0 -> 4; slot 2 1 -> 4; crash -> true; pull 0 -> true; activate -> 4; rows 0 -> 3");
        s.run("an older copy in any of its slots", 3, 6,
                "create 1 1 1 -> 0; pull 2 -> true; extend 0 1 -> 2; extend 0 1 -> 3; crash -> true; plug 2 -> true",
                "pull 0 -> true; activate -> 2");
        s.run("a torn slot holds none, not even the copy that was in it before", 3, 6,
                "pull 2 -> true; create 1 1 1 -> 0; extend 0 1 -> 2; arm 0 -> true; extend 0 1 -> STOPPED",
                "slot 0 0 -> TORN; slot 2 0 -> 1; pull 1 -> true; plug 2 -> true; activate -> FEW; plug 1 -> true",
                "activate -> 3");
        s.run("copies are the same when number and stamp are: two of a number are not", 5, 6,
                "create 1 1 1 -> 0; arm 1 -> true; extend 0 1 -> STOPPED; pull 0 -> true; activate -> 2",
                "extend 0 3 -> 4; crash -> true; plug 0 -> true; pull 3 -> true; pull 4 -> true; slot 0 2 -> 3",
                "slot 1 2 -> 3; slot 2 2 -> 3; activate -> 2; rows 0 -> 1");
        s.run("of two copies with the same number, that of the quorum", 3, 6, ONE_GREATER,
                "pull 0 -> true; activate -> 2; extend 0 3 -> 4; crash -> true; plug 0 -> true; slot 0 2 -> 3",
                "slot 1 2 -> 3; activate -> 3; rows 0 -> 4");
    }

    private static void emptied(Script s) {
        s.run("a copy with a greater number, on a disk that has not the chosen one", 3, 6, GREATER_BUT_NOT_CHOSEN,
                "activate -> 3; slot 0 0 -> 3; slot 0 1 -> 2; slot 0 2 -> 0; rows 0 -> 2");
        s.run("a copy with a greater number: an act makes the slot empty", 3, 6, ONE_GREATER,
                "activate -> 2; slot 0 2 -> 0; slot 0 1 -> 2; slot 0 0 -> 1");
        s.run("in more than one slot", 3, 6, TWO_GREATER,
                "slot 1 0 -> 4; slot 1 2 -> 3; activate -> 2; slot 1 0 -> 0; slot 1 1 -> 2; slot 1 2 -> 0");
        s.run("not on a disk that is away", 3, 6, TWO_GREATER,
                "activate -> 2; slot 0 0 -> 4; slot 0 1 -> 2; slot 0 2 -> 3");
        s.run("but at a later start, when it is present", 3, 6, TWO_GREATER,
                "activate -> 2; plug 0 -> true; slot 0 0 -> 4; crash -> true; activate -> 2; slot 0 0 -> 0",
                "slot 0 1 -> 2; slot 0 2 -> 0");
        s.run("not one with a lesser number", 3, 6,
                "create 1 1 1 -> 0; crash -> true; activate -> 2; slot 0 0 -> 1; slot 0 1 -> 2");
        s.run("not one with the same number and another stamp", 3, 6, ONE_GREATER,
                "pull 0 -> true; activate -> 2; extend 0 3 -> 4; crash -> true; plug 0 -> true; activate -> 3",
                "slot 0 0 -> 3; slot 0 1 -> 2; slot 0 2 -> 3");
        s.run("not a torn one", 3, 6,
                "arm 0 -> true; create 1 1 1 -> STOPPED; activate -> 1; slot 0 0 -> 1; slot 0 1 -> TORN",
                "slot 0 2 -> 0");
        s.run("slots that were made empty are written again", 3, 6, ONE_GREATER,
                "activate -> 2; extend 0 1 -> 2; slot 0 2 -> 3; slot 1 2 -> 3");
    }

    private static void written(Script s) {
        s.run("if none of its slots holds the chosen copy, an act writes it to the next slot", 3, 6,
                "pull 2 -> true; create 1 1 1 -> 0; crash -> true; plug 2 -> true; activate -> 2; slot 2 0 -> 1",
                "slot 2 1 -> 2; slot 2 2 -> 0");
        s.run("no act if one of them holds it", 3, 6,
                "create 1 1 1 -> 0; crash -> true; arm 0 -> true; activate -> 2; slot 0 2 -> 0; slot 1 2 -> 0",
                "slot 2 2 -> 0");
        s.run("the next slot is n mod 3: 0 behind 2", 3, 6,
                "create 1 1 1 -> 0; extend 0 1 -> 2; pull 2 -> true; extend 0 1 -> 3; crash -> true; plug 2 -> true",
                "activate -> 4; slot 2 0 -> 4; slot 2 1 -> 2; slot 2 2 -> 3");
        s.run("the next slot, whatever lesser copies the disk has", 3, 6, ONE_GREATER,
                "pull 0 -> true; activate -> 2; extend 0 1 -> 2; extend 0 1 -> 3; extend 0 1 -> 4; crash -> true",
                "plug 0 -> true; slot 0 2 -> 3; activate -> 5; slot 0 0 -> 5; slot 0 1 -> 2; slot 0 2 -> 3");
        s.run("to the next slot, not to the one behind the copy that was present before the stop", 3, 6,
                "create 1 1 1 -> 0; arm 2 -> true; extend 0 1 -> STOPPED; slot 2 2 -> TORN; activate -> 3",
                "slot 2 0 -> 3; slot 2 1 -> 2; slot 2 2 -> TORN");
        s.run("not to a disk that is away", 3, 6,
                "pull 2 -> true; create 1 1 1 -> 0; crash -> true; activate -> 2; slot 2 1 -> 0");
        s.run("a written copy is the same copy: it counts for a quorum", 3, 6,
                "pull 2 -> true; create 1 1 1 -> 0; crash -> true; plug 2 -> true; activate -> 2; crash -> true",
                "pull 0 -> true; activate -> 2; rows 0 -> 1");
        s.run("a written copy counts among those that the disk was given", 3, 6,
                "pull 2 -> true; create 1 1 1 -> 0; crash -> true; plug 2 -> true; activate -> 2; slot 2 1 -> 2",
                "pull 2 -> true; extend 0 1 -> 2; plug 2 -> true; crash -> true; activate -> 3; slot 2 2 -> 3",
                "pull 2 -> true; extend 0 1 -> 3; plug 2 -> true; extend 0 1 -> 4; slot 2 0 -> 5");
    }

    private static void started(Script s) {
        s.run("the chosen copy is the present one", 3, 6,
                "create 2 2 2 -> 0; create 1 4 1 -> 1; write 0 5 55 -> 1; crash -> true; activate -> 3",
                "sequence -> 3; rows 0 -> 2; rows 1 -> 1; where 0 0 -> 0; where 0 1 -> 16; where 0 2 -> 1",
                "where 0 3 -> 32; where 1 0 -> 17; read 0 5 -> 55; free 0 -> 4; rows 2 -> BAD");
        s.run("the group is UP", 3, 6,
                "crash -> true; activate -> 1; activate -> UP; create 1 1 1 -> 0; crash -> true");
        s.run("answers its number", 3, 6,
                "crash -> true; activate -> 1; create 1 1 1 -> 0; crash -> true; activate -> 2; extend 0 1 -> 2",
                "crash -> true; activate -> 3");
        s.run("of its move no cell is copied", 3, 6,
                "create 1 1 1 -> 0; write 0 0 7 -> 1; move 0 0 1 -> 0; step -> 3; step -> 2; crash -> true",
                "activate -> 3; moving -> 0; write 0 0 8 -> 1; step -> 3; step -> 2; step -> 1; step -> 0",
                "step -> 4; read 0 0 -> 8");
        s.run("of its move no cell is copied, though all were", 3, 6,
                "create 1 1 1 -> 0; move 0 0 1 -> 0; step -> 3; step -> 2; step -> 1; step -> 0; crash -> true",
                "activate -> 3; moving -> 0; step -> 3");
        s.run("if it has no move", 3, 6,
                "create 1 1 1 -> 0; arm 0 -> true; move 0 0 1 -> STOPPED; activate -> 2; moving -> IDLE",
                "free 1 -> 6");
        s.run("the next number is that of the chosen copy and 1 more", 3, 6, ONE_GREATER,
                "activate -> 2; extend 0 1 -> 2; sequence -> 3");
        s.run("extents of copies that were not chosen are free", 3, 6, ONE_GREATER,
                "activate -> 2; free 0 -> 5; free 1 -> 6; free 2 -> 6");
    }

    private static void refused(Script s) {
        s.refuses("UP when it is up", 3, 6, SOME, "activate -> UP");
        s.refuses("UP when it is up with a move", 3, 6, "create 1 1 1 -> 0; move 0 0 1 -> 0; step -> 3; step -> 2",
                "activate -> UP");
        s.refuses("UP when it is up without a quorum", 3, 6, SOME + "; pull 0 -> true; pull 1 -> true",
                "activate -> UP");
        s.refuses("UP when it is up with a disk that has not the present copy", 3, 6,
                "pull 2 -> true; create 1 1 1 -> 0; plug 2 -> true; arm 0 -> true",
                "activate -> UP");
        s.refuses("FEW when the present disks are no quorum", 3, 6,
                SOME + "; crash -> true; pull 0 -> true; pull 1 -> true; arm 0 -> true",
                "activate -> FEW");
        s.refuses("FEW when half of the disks are present", 4, 6,
                SOME + "; crash -> true; pull 0 -> true; pull 1 -> true",
                "activate -> FEW");
        s.refuses("FEW when all disks are away", 2, 6, SOME + "; crash -> true; pull 0 -> true; pull 1 -> true",
                "activate -> FEW");
        s.refuses("FEW when a quorum is present but no copy is held by one", 3, 6,
                NOTHING_IN_COMMON + "; arm 0 -> true",
                "activate -> FEW");
        s.run("when the others are present again", 3, 6, NOTHING_IN_COMMON,
                "activate -> FEW; plug 0 -> true; activate -> 6; slot 2 0 -> 6; rows 0 -> 5");
    }

    private static void stopped(Script s) {
        s.run("STOPPED (it stays down)", 3, 6, ONE_GREATER,
                "arm 0 -> true; activate -> STOPPED; sequence -> DOWN; crash -> false; activate -> 2");
        s.run("STOPPED at a write, which leaves a torn slot and counts", 3, 6,
                "pull 2 -> true; create 1 1 1 -> 0; crash -> true; plug 2 -> true; arm 0 -> true",
                "activate -> STOPPED; slot 2 1 -> TORN; activate -> 2; slot 2 1 -> TORN; slot 2 2 -> 2",
                "slot 2 0 -> 1");
        s.run("for its slots 0 .. 2, in this order", 3, 6, TWO_GREATER,
                "arm 1 -> true; activate -> STOPPED; slot 1 0 -> 0; slot 1 1 -> 2; slot 1 2 -> 3");
        s.run("first slots are made empty, after that one is written", 3, 6, GREATER_BUT_NOT_CHOSEN,
                "arm 1 -> true; activate -> STOPPED; slot 0 2 -> 0; slot 0 0 -> TORN; slot 0 1 -> 2; activate -> 3",
                "slot 0 1 -> 3");
        s.run("a stop before the first of them", 3, 6, GREATER_BUT_NOT_CHOSEN,
                "arm 0 -> true; activate -> STOPPED; slot 0 2 -> 4; slot 0 0 -> 1; slot 0 1 -> 2; activate -> 3",
                "slot 0 2 -> 0; slot 0 0 -> 3");
        s.run("for each present disk in the order of their numbers", 5, 6,
                "create 1 1 1 -> 0; pull 3 -> true; pull 4 -> true; extend 0 1 -> 2; crash -> true; plug 3 -> true",
                "plug 4 -> true; arm 1 -> true; activate -> STOPPED; slot 3 2 -> 3; slot 4 2 -> TORN; slot 0 2 -> 3",
                "arm 1 -> true; activate -> 3; slot 4 0 -> 3; write 0 0 1 -> STOPPED");
        s.run("a disk is written before slots of the one behind it are made empty", 3, 6,
                "pull 0 -> true; create 1 1 1 -> 0; arm 1 -> true; extend 0 1 -> STOPPED; slot 1 2 -> 3",
                "plug 0 -> true; arm 1 -> true; activate -> STOPPED; slot 0 1 -> 2; slot 1 2 -> 3; arm 1 -> true",
                "activate -> 2; slot 1 2 -> 0; write 0 0 1 -> STOPPED");
        s.run("what was done before stays, and is not done again", 3, 6, TWO_GREATER,
                "arm 1 -> true; activate -> STOPPED; arm 1 -> true; activate -> 2; slot 1 2 -> 0",
                "write 0 0 1 -> MISSING; extend 0 1 -> STOPPED; slot 1 2 -> TORN; slot 2 2 -> 0");
    }
}
