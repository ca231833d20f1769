/** Promise 9, write. */
public final class WriteTest {
    private static final String SOME = "create 2 1 2 -> 0; write 0 0 7 -> 1; move 0 3 1 -> 0; step -> 3";
    private static final String TWO_COPIED =
            "create 1 4 2 -> 0; write 0 0 5 -> 1; move 0 0 1 -> 0; step -> 3; step -> 2";

    public static void main(String[] args) {
        Script s = new Script();
        written(s);
        duringAMove(s);
        refused(s);
        stopped(s);
        s.end();
    }

    private static void written(Script s) {
        s.run("an act writes v into the cell of a block", 3, 3, SOME,
                "read 0 0 -> 7; write 0 0 8 -> 1; read 0 0 -> 8; read 0 1 -> 0; read 0 8 -> 0");
        s.run("the first and the last block", 3, 3, SOME,
                "write 0 0 1 -> 1; write 0 15 2 -> 1; read 0 0 -> 1; read 0 15 -> 2; read 0 14 -> 0");
        s.run("v is 0", 3, 3, SOME, "write 0 0 0 -> 1; read 0 0 -> 0");
        s.run("v is 2^31 - 1", 3, 3, SOME, "write 0 0 MAX -> 1; read 0 0 -> MAX");
        s.run("no commit, and no quorum is needed", 3, 3, SOME,
                "pull 1 -> true; pull 2 -> true; write 0 0 9 -> 1; sequence -> 3; slot 0 0 -> 1; read 0 0 -> 9");
        s.run("what was written stays over a new start", 3, 3, SOME, "crash -> true; activate -> 3; read 0 0 -> 7");
    }

    private static void duringAMove(Script s) {
        s.run("a copied cell: a second act writes v into the target's cell", 2, 3, TWO_COPIED,
                "write 0 0 21 -> 2; write 0 1 22 -> 2; read 0 0 -> 21; step -> 1; step -> 0; step -> 4",
                "where 0 0 -> 17; read 0 0 -> 21; read 0 1 -> 22");
        s.run("a cell that is not copied yet", 2, 3, TWO_COPIED,
                "write 0 2 23 -> 1; write 0 3 24 -> 1; step -> 1; write 0 2 25 -> 2; write 0 3 26 -> 1; step -> 0",
                "step -> 4; read 0 2 -> 25; read 0 3 -> 26");
        s.run("no cell is copied", 2, 3, "create 1 4 1 -> 0; move 0 0 1 -> 0; write 0 0 1 -> 1; write 0 3 1 -> 1");
        s.run("all cells are copied", 2, 3, TWO_COPIED,
                "step -> 1; step -> 0; write 0 0 1 -> 2; write 0 3 2 -> 2; step -> 4; read 0 3 -> 2",
                "write 0 3 3 -> 1");
        s.run("another extent of the volume", 2, 3, TWO_COPIED,
                "write 0 4 6 -> 1; write 0 5 6 -> 1; write 0 0 6 -> 2");
        s.run("another volume's extent of the same number", 2, 3,
                "create 1 4 1 -> 0; create 1 4 1 -> 1; move 1 0 0 -> 0; step -> 3; write 0 0 5 -> 1",
                "write 1 0 5 -> 2");
        s.run("striped: the copied cells of the source's column", 3, 3,
                "create 2 1 1 -> 0; move 0 1 2 -> 0; step -> 3; write 0 1 5 -> 2; write 0 0 5 -> 1",
                "write 0 3 5 -> 1; step -> 2; write 0 3 6 -> 2; write 0 2 6 -> 1");
        s.run("none is copied after a new start", 2, 3, TWO_COPIED, "crash -> true; activate -> 3; write 0 0 8 -> 1");
        s.run("once when the move is given up", 2, 3, TWO_COPIED, "cancel -> 0; write 0 0 8 -> 1");
    }

    private static void refused(Script s) {
        s.refuses("DOWN", 3, 3, SOME + "; crash -> true", "write 0 0 1 -> DOWN; write 9 9 -1 -> DOWN");
        s.refuses("BAD when there is no such volume", 3, 3, SOME,
                "write 1 0 1 -> BAD; write 3 0 1 -> BAD; write -1 0 1 -> BAD; write 4 0 1 -> BAD",
                "write MAX 0 1 -> BAD; write MIN 0 1 -> BAD");
        s.refuses("BAD when there is no such block", 3, 3, SOME,
                "write 0 16 1 -> BAD; write 0 17 1 -> BAD; write 0 -1 1 -> BAD; write 0 48 1 -> BAD",
                "write 0 MAX 1 -> BAD; write 0 MIN 1 -> BAD");
        s.refuses("BAD when v is less than 0", 3, 3, SOME,
                "write 0 0 -1 -> BAD; write 0 0 MIN -> BAD; write 0 15 -1 -> BAD");
        s.refuses("MISSING when its disk is away", 3, 3, SOME + "; pull 0 -> true", "write 0 0 1 -> MISSING");
        s.run("not MISSING when another disk of the volume is away", 3, 3, SOME,
                "pull 1 -> true; write 0 0 1 -> 1; write 0 1 1 -> MISSING");
        s.refuses("MISSING when that of the target for a copied cell is away", 3, 3,
                TWO_COPIED + "; arm 0 -> true; pull 1 -> true",
                "write 0 0 6 -> MISSING; write 0 1 6 -> MISSING");
        s.run("not MISSING when that of the target is away for another cell", 3, 3, TWO_COPIED,
                "pull 1 -> true; write 0 2 6 -> 1; read 0 2 -> 6; plug 1 -> true; write 0 0 5 -> 2");
        s.refuses("MISSING when the source's disk is away, although the cell is copied", 3, 3,
                TWO_COPIED + "; pull 0 -> true",
                "write 0 0 6 -> MISSING; write 0 2 6 -> MISSING");
        s.run("DOWN, BAD, MISSING, STOPPED", 3, 3, SOME,
                "arm 0 -> true; pull 0 -> true; pull 1 -> true; write 0 0 1 -> MISSING; write 0 0 -1 -> BAD",
                "write 0 16 1 -> BAD; write 1 0 1 -> BAD; crash -> true; write 0 0 -1 -> DOWN; write 0 0 1 -> DOWN");
    }

    private static void stopped(Script s) {
        s.run("STOPPED at the first act", 2, 3,
                "create 1 4 1 -> 0; write 0 0 5 -> 1; arm 0 -> true; write 0 0 6 -> STOPPED; read 0 0 -> DOWN",
                "activate -> 2; read 0 0 -> 5");
        s.run("STOPPED at the first act of two", 2, 3, TWO_COPIED,
                "arm 0 -> true; write 0 0 6 -> STOPPED; activate -> 3; read 0 0 -> 5; cancel -> 0",
                "create 1 4 2 -> 1; where 1 1 -> 17; read 1 4 -> 5");
        s.run("STOPPED at the second act: the first was made", 2, 3, TWO_COPIED,
                "arm 1 -> true; write 0 0 6 -> STOPPED; activate -> 3; read 0 0 -> 6; cancel -> 0",
                "create 1 4 2 -> 1; where 1 1 -> 17; read 1 4 -> 5");
        s.run("a stop armed with 2 comes behind two acts", 2, 3, TWO_COPIED,
                "arm 2 -> true; write 0 0 6 -> 2; write 0 0 7 -> STOPPED; activate -> 3; read 0 0 -> 6");
    }
}
