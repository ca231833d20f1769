/** Promise 4, reduce. */
public final class ReduceTest {
    private static final String SOME =
            "create 2 1 3 -> 0; create 1 1 1 -> 1; write 0 23 7 -> 1; move 1 0 0 -> 0; step -> 3";

    public static void main(String[] args) {
        Script s = new Script();
        reduced(s);
        refused(s);
        inOrder(s);
        s.end();
    }

    private static void reduced(Script s) {
        s.run("loses so many rows, from its end", 3, 4,
                "create 2 1 4 -> 0; where 0 5 -> 33; reduce 0 1 -> 3; rows 0 -> 3; where 0 6 -> BAD",
                "where 0 5 -> 33; read 0 24 -> BAD; reduce 0 2 -> 1; where 0 0 -> 0; where 0 1 -> 16",
                "where 0 2 -> BAD; free 0 -> 3; free 1 -> 3; free 2 -> 4");
        s.run("without rows it is not there any more", 3, 4,
                "create 2 1 2 -> 0; reduce 0 2 -> 0; rows 0 -> BAD; where 0 0 -> BAD; read 0 0 -> BAD",
                "write 0 0 1 -> BAD; extend 0 1 -> BAD; reduce 0 1 -> BAD; move 0 0 1 -> BAD; free 0 -> 4",
                "free 1 -> 4; create 1 1 1 -> 0");
        s.run("answers how many are left", 5, 10,
                "create 1 1 12 -> 0; reduce 0 1 -> 11; reduce 0 10 -> 1; reduce 0 1 -> 0");
        s.run("the new map is committed", 3, 4,
                "create 2 1 2 -> 0; reduce 0 1 -> 1; sequence -> 3; slot 0 2 -> 3; slot 1 2 -> 3; slot 2 2 -> 3",
                "slot 0 1 -> 2; crash -> true; activate -> 3; rows 0 -> 1");
        s.run("a map without volumes is committed too", 3, 4,
                "create 2 1 2 -> 0; reduce 0 2 -> 0; crash -> true; activate -> 3; rows 0 -> BAD");
        s.run("the other volumes stay", 3, 4,
                "create 1 1 1 -> 0; create 1 1 2 -> 1; reduce 0 1 -> 0; rows 1 -> 2; where 1 0 -> 16",
                "where 1 1 -> 32");
        s.run("its disks may be away", 3, 4,
                "create 1 1 1 -> 0; pull 0 -> true; reduce 0 1 -> 0; free 0 -> 4; slot 0 2 -> 0; slot 1 2 -> 3");
    }

    private static void refused(Script s) {
        s.refuses("DOWN", 3, 4, SOME + "; crash -> true", "reduce 0 1 -> DOWN");
        s.refuses("BAD when there is no such volume", 3, 4, SOME,
                "reduce 2 1 -> BAD; reduce 3 1 -> BAD; reduce -1 1 -> BAD; reduce 4 1 -> BAD; reduce MAX 1 -> BAD",
                "reduce MIN 1 -> BAD");
        s.refuses("BAD when rows is less than 1", 3, 4, SOME,
                "reduce 0 0 -> BAD; reduce 0 -1 -> BAD; reduce 0 MIN -> BAD");
        s.refuses("BAD when rows is more than it has", 3, 4, SOME,
                "reduce 0 4 -> BAD; reduce 0 6 -> BAD; reduce 0 MAX -> BAD");
        s.refuses("FEW", 3, 4, SOME + "; pull 0 -> true; pull 1 -> true", "reduce 0 1 -> FEW; reduce 0 3 -> FEW");
        s.refuses("BUSY when the move is of an extent of this volume", 3, 4,
                "create 1 1 2 -> 0; move 0 0 1 -> 0; step -> 3; arm 2 -> true",
                "reduce 0 1 -> BUSY; reduce 0 2 -> BUSY");
        s.run("not BUSY when the move is of another volume", 3, 4,
                "create 1 1 1 -> 0; create 1 1 2 -> 1; move 0 0 1 -> 0; step -> 3; reduce 1 1 -> 1; moving -> 16",
                "reduce 1 1 -> 0; moving -> 16");
        s.run("not BUSY when the move has ended or was given up", 3, 4,
                "create 1 1 3 -> 0; move 0 0 1 -> 0; cancel -> 0; reduce 0 1 -> 2; move 0 0 1 -> 0; step -> 3",
                "step -> 2; step -> 1; step -> 0; reduce 0 1 -> BUSY; step -> 4; reduce 0 1 -> 1");
        s.run("STOPPED", 3, 4,
                "create 1 1 2 -> 0; arm 0 -> true; reduce 0 1 -> STOPPED; rows 0 -> DOWN; activate -> 2",
                "rows 0 -> 2");
        s.run("STOPPED, but a quorum has it", 3, 4,
                "create 1 1 2 -> 0; arm 2 -> true; reduce 0 1 -> STOPPED; activate -> 3; rows 0 -> 1");
    }

    private static void inOrder(Script s) {
        s.run("DOWN, BAD, FEW, BUSY, STOPPED", 3, 4,
                "create 1 1 2 -> 0; move 0 0 1 -> 0; arm 0 -> true; reduce 0 1 -> BUSY; reduce 0 3 -> BAD",
                "reduce 0 0 -> BAD; pull 0 -> true; reduce 0 1 -> BUSY; pull 1 -> true; reduce 0 1 -> FEW",
                "reduce 0 3 -> BAD; reduce 1 1 -> BAD; crash -> true; reduce 0 3 -> DOWN; reduce 0 1 -> DOWN");
    }
}
