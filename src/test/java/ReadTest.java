/** Promise 8, read. */
public final class ReadTest {
    private static final String SOME =
            "create 2 1 2 -> 0; write 0 0 7 -> 1; write 0 15 8 -> 1; move 0 3 1 -> 0; step -> 3";

    public static void main(String[] args) {
        Script s = new Script();
        s.run("the number in the cell of a block of a volume", 3, 3,
                "create 2 1 1 -> 0; create 2 2 1 -> 1; write 0 3 13 -> 1; write 1 3 23 -> 1; read 0 3 -> 13",
                "read 1 3 -> 23; read 0 2 -> 0");
        s.run("the first and the last block", 3, 3, SOME, "read 0 0 -> 7; read 0 15 -> 8; read 0 14 -> 0");
        s.run("the last block of the largest", 5, 10,
                "create 4 4 3 -> 0; write 0 47 9 -> 1; read 0 47 -> 9; read 0 48 -> BAD");
        s.run("that of the source when its extent is being moved", 2, 3,
                "create 1 4 1 -> 0; write 0 0 5 -> 1; move 0 0 1 -> 0; read 0 0 -> 5; step -> 3; read 0 0 -> 5",
                "read 0 1 -> 0");
        s.run("that of the source when the target's differs", 2, 3,
                "create 1 4 1 -> 0; write 0 0 5 -> 1; move 0 0 1 -> 0; step -> 3; arm 1 -> true",
                "write 0 0 6 -> STOPPED; activate -> 3; read 0 0 -> 6");
        s.run("no act, so no stop", 3, 3, SOME, "arm 0 -> true; read 0 0 -> 7; read 0 15 -> 8");
        s.run("no quorum is needed", 3, 3, SOME, "pull 2 -> true; pull 1 -> true; read 0 0 -> 7");
        refused(s);
        s.end();
    }

    private static void refused(Script s) {
        s.refuses("DOWN", 3, 3, SOME + "; crash -> true", "read 0 0 -> DOWN; read 9 9 -> DOWN");
        s.refuses("BAD when there is no such volume", 3, 3, SOME,
                "read 1 0 -> BAD; read 3 0 -> BAD; read -1 0 -> BAD; read 4 0 -> BAD; read MAX 0 -> BAD",
                "read MIN 0 -> BAD");
        s.refuses("BAD when there is no such block", 3, 3, SOME,
                "read 0 16 -> BAD; read 0 17 -> BAD; read 0 -1 -> BAD; read 0 48 -> BAD; read 0 MAX -> BAD",
                "read 0 MIN -> BAD");
        s.run("BAD for the blocks of rows that were lost", 3, 3, SOME,
                "cancel -> 0; reduce 0 1 -> 1; read 0 7 -> 0; read 0 8 -> BAD");
        s.refuses("MISSING when its disk is away", 3, 3, SOME + "; pull 0 -> true", "read 0 0 -> MISSING");
        s.run("not MISSING when another disk of the volume is away", 3, 3, SOME,
                "pull 1 -> true; read 0 0 -> 7; read 0 1 -> MISSING");
        s.run("not MISSING when the target's disk is away", 3, 3,
                "create 1 4 1 -> 0; write 0 0 5 -> 1; move 0 0 1 -> 0; step -> 3; pull 1 -> true; read 0 0 -> 5");
        s.run("MISSING when the source's disk is away, although the cell is copied", 3, 3,
                "create 1 4 1 -> 0; write 0 0 5 -> 1; move 0 0 1 -> 0; step -> 3; pull 0 -> true",
                "read 0 0 -> MISSING");
        s.run("DOWN, BAD, MISSING", 3, 3, SOME,
                "pull 0 -> true; pull 1 -> true; read 0 0 -> MISSING; read 0 16 -> BAD; read 1 0 -> BAD",
                "crash -> true; read 0 16 -> DOWN; read 0 0 -> DOWN");
    }
}
