/** Promise 6, step. */
public final class StepTest {
    private static final String BEGUN = "create 1 4 1 -> 0; write 0 0 7 -> 1; move 0 0 1 -> 0";
    private static final String ALL_COPIED = BEGUN + "; step -> 3; step -> 2; step -> 1; step -> 0";

    public static void main(String[] args) {
        Script s = new Script();
        copied(s);
        done(s);
        refused(s);
        inOrder(s);
        s.end();
    }

    private static void copied(Script s) {
        s.run("one more is copied, and the answer is how many are still to be copied (3 .. 0)", 3, 3, BEGUN,
                "step -> 3; moving -> 16; step -> 2; moving -> 32; step -> 1; moving -> 48; step -> 0; moving -> 64",
                "sequence -> 3");
        s.run("the number of the cell is that when it is copied", 2, 3, BEGUN,
                "write 0 1 8 -> 1; step -> 3; write 0 1 9 -> 1; step -> 2; step -> 1; step -> 0; step -> 4",
                "read 0 0 -> 7; read 0 1 -> 9");
        s.run("other volumes do not hinder it", 3, 3, BEGUN,
                "step -> 3; step -> 2; create 1 1 1 -> 1; moving -> 32; extend 1 2 -> 3; moving -> 32",
                "reduce 1 3 -> 0; moving -> 32; step -> 1; sequence -> 6");
        s.run("a copied cell is no commit", 3, 3, BEGUN,
                "step -> 3; slot 0 0 -> 1; slot 1 0 -> 1; slot 2 0 -> 1; sequence -> 3");
    }

    private static void done(Script s) {
        s.run("if all were copied, a map is committed, and the answer is 4", 3, 3, ALL_COPIED,
                "sequence -> 3; where 0 0 -> 0; step -> 4; sequence -> 4; slot 0 0 -> 4; slot 1 0 -> 4",
                "slot 2 0 -> 4; crash -> true; activate -> 4; where 0 0 -> 16");
        s.run("the volume has the target in place of the source", 3, 3,
                "create 2 1 2 -> 0; where 0 0 -> 0; where 0 1 -> 16; where 0 2 -> 1; where 0 3 -> 32",
                "move 0 1 2 -> 0; step -> 3; step -> 2; step -> 1; step -> 0; step -> 4; where 0 0 -> 0",
                "where 0 1 -> 33; where 0 2 -> 1; where 0 3 -> 32; rows 0 -> 2");
        s.run("so has the fourth volume", 3, 4,
                "create 1 1 1 -> 0; create 1 1 1 -> 1; create 1 1 1 -> 2; create 1 1 2 -> 3; where 3 1 -> 17",
                "move 3 1 2 -> 0; step -> 3; step -> 2; step -> 1; step -> 0; step -> 4; where 3 1 -> 33",
                "where 3 0 -> 1; where 0 0 -> 0; where 2 0 -> 32");
        s.run("what was in the source is in the target", 2, 2,
                "create 1 4 1 -> 0; write 0 0 1 -> 1; write 0 1 2 -> 1; write 0 2 3 -> 1; write 0 3 4 -> 1",
                "move 0 0 1 -> 0; step -> 3; step -> 2; step -> 1; step -> 0; step -> 4; read 0 0 -> 1",
                "read 0 1 -> 2; read 0 2 -> 3; read 0 3 -> 4");
        s.run("in which there is no move", 3, 3, ALL_COPIED,
                "step -> 4; moving -> IDLE; step -> IDLE; sequence -> 4; extend 0 1 -> 2");
        s.run("the source is free then", 3, 3, ALL_COPIED,
                "free 0 -> 2; free 1 -> 2; step -> 4; free 0 -> 3; free 1 -> 2");
        s.run("the source's cells keep their numbers", 2, 2, ALL_COPIED,
                "step -> 4; create 1 4 1 -> 1; where 1 0 -> 0; read 1 0 -> 7");
    }

    private static void refused(Script s) {
        s.refuses("DOWN", 3, 3, BEGUN + "; arm 1 -> true; crash -> true", "step -> DOWN");
        s.refuses("IDLE when there is no move", 3, 3, "create 1 1 1 -> 0; arm 0 -> true", "step -> IDLE");
        s.refuses("IDLE when there is no move any more", 3, 3, ALL_COPIED + "; step -> 4; arm 0 -> true",
                "step -> IDLE");
        s.refuses("IDLE when the move was given up", 3, 3, BEGUN + "; cancel -> 0", "step -> IDLE");
        s.refuses("FEW", 5, 3, BEGUN + "; step -> 3; pull 2 -> true; pull 3 -> true; pull 4 -> true", "step -> FEW");
        s.refuses("FEW when all were copied", 5, 3, ALL_COPIED + "; pull 2 -> true; pull 3 -> true; pull 4 -> true",
                "step -> FEW");
        s.refuses("MISSING when the source's disk is away", 3, 3,
                BEGUN + "; step -> 3; arm 0 -> true; pull 0 -> true",
                "step -> MISSING");
        s.refuses("MISSING when the target's disk is away", 3, 3,
                BEGUN + "; step -> 3; arm 0 -> true; pull 1 -> true",
                "step -> MISSING");
        s.refuses("MISSING when all were copied and the source's disk is away", 3, 3, ALL_COPIED + "; pull 0 -> true",
                "step -> MISSING");
        s.refuses("MISSING when all were copied and the target's disk is away", 3, 3, ALL_COPIED + "; pull 1 -> true",
                "step -> MISSING");
        s.run("not MISSING when a third disk is away", 3, 3, BEGUN,
                "pull 2 -> true; step -> 3; step -> 2; step -> 1; step -> 0; step -> 4");
        s.run("STOPPED at a cell", 2, 3,
                "create 1 1 1 -> 0; create 1 1 1 -> 1; write 1 0 5 -> 1; reduce 1 1 -> 0; write 0 0 6 -> 1",
                "move 0 0 1 -> 0; arm 0 -> true; step -> STOPPED; activate -> 5; moving -> 0; cancel -> 0",
                "create 1 1 1 -> 1; where 1 0 -> 16; read 1 0 -> 5");
        s.run("STOPPED at the last cell", 2, 3, BEGUN,
                "arm 3 -> true; step -> 3; step -> 2; step -> 1; step -> STOPPED; activate -> 3; moving -> 0",
                "step -> 3");
        s.run("STOPPED at the commit", 3, 3, BEGUN,
                "arm 5 -> true; step -> 3; step -> 2; step -> 1; step -> 0; step -> STOPPED; slot 0 0 -> 4",
                "slot 1 0 -> TORN; slot 2 0 -> 1; activate -> 3; moving -> 0; where 0 0 -> 0; read 0 0 -> 7");
        s.run("STOPPED at the commit, but a quorum has it", 3, 3, BEGUN,
                "arm 6 -> true; step -> 3; step -> 2; step -> 1; step -> 0; step -> STOPPED; activate -> 4",
                "moving -> IDLE; where 0 0 -> 16; read 0 0 -> 7");
    }

    private static void inOrder(Script s) {
        s.run("DOWN, IDLE, FEW, MISSING, STOPPED", 3, 3,
                "create 1 1 1 -> 0; pull 1 -> true; pull 2 -> true; step -> IDLE; crash -> true; step -> DOWN",
                "plug 1 -> true; activate -> 2; move 0 0 1 -> 0; arm 0 -> true; pull 1 -> true; step -> FEW",
                "plug 2 -> true; step -> MISSING; plug 1 -> true; pull 0 -> true; step -> MISSING; moving -> 0",
                "pull 1 -> true; step -> FEW; crash -> true; step -> DOWN");
    }
}
