/** Promise 5, move. */
public final class MoveTest {
    private static final String SOME = "create 2 1 1 -> 0; create 1 1 1 -> 1; write 0 0 7 -> 1";
    private static final String MOVING = SOME + "; move 1 0 1 -> 0; step -> 3";

    public static void main(String[] args) {
        Script s = new Script();
        begun(s);
        refused(s);
        inOrder(s);
        s.end();
    }

    private static void begun(Script s) {
        s.run("a move begins, of an extent number of a volume", 3, 3,
                "create 1 1 3 -> 0; move 0 1 0 -> 0; moving -> 1; where 0 1 -> 16; free 0 -> 1; free 1 -> 2");
        s.run("the first and the last extent number", 5, 10,
                "create 1 1 12 -> 0; move 0 11 0 -> 0; moving -> 11; cancel -> 0; move 0 0 4 -> 0; moving -> 0");
        s.run("to the least free extent of a disk", 2, 4,
                "create 1 1 6 -> 0; reduce 0 4 -> 2; create 1 1 1 -> 1; move 0 0 1 -> 0; step -> 3; step -> 2",
                "step -> 1; step -> 0; step -> 4; where 0 0 -> 17; where 0 1 -> 16; where 1 0 -> 1");
        s.run("the least free extent, below used ones", 2, 3,
                "create 2 1 1 -> 0; create 2 1 1 -> 1; reduce 0 1 -> 0; move 1 0 1 -> 0; step -> 3; step -> 2",
                "step -> 1; step -> 0; step -> 4; where 1 0 -> 16; where 1 1 -> 17");
        s.run("the last free extent of a disk", 2, 2,
                "create 1 1 3 -> 0; where 0 2 -> 1; free 1 -> 1; move 0 2 1 -> 0; free 1 -> 0; free 0 -> 0",
                "step -> 3; step -> 2; step -> 1; step -> 0; step -> 4; where 0 2 -> 17");
        s.run("to the disk on which it is", 2, 2,
                "create 1 1 1 -> 0; write 0 2 9 -> 1; move 0 0 0 -> 0; free 0 -> 0; step -> 3; step -> 2; step -> 1",
                "step -> 0; step -> 4; where 0 0 -> 1; read 0 2 -> 9; free 0 -> 1; create 1 1 1 -> 1",
                "where 1 0 -> 16; create 1 1 1 -> 2; where 2 0 -> 0");
        s.run("to a disk that has another extent of its row", 2, 3,
                "create 2 1 1 -> 0; move 0 0 1 -> 0; step -> 3; step -> 2; step -> 1; step -> 0; step -> 4",
                "where 0 0 -> 17; where 0 1 -> 16");
        s.run("it is committed with the map", 3, 3,
                "create 1 1 1 -> 0; move 0 0 1 -> 0; sequence -> 3; slot 0 2 -> 3; slot 1 2 -> 3; slot 2 2 -> 3",
                "crash -> true; activate -> 3; moving -> 0; free 1 -> 2");
        s.run("a second move begins with no copied cell", 2, 4,
                "create 1 1 1 -> 0; move 0 0 1 -> 0; step -> 3; step -> 2; step -> 1; step -> 0; step -> 4",
                "move 0 0 0 -> 0; moving -> 0; step -> 3; cancel -> 0; move 0 0 0 -> 0; moving -> 0",
                "write 0 0 1 -> 1; step -> 3");
    }

    private static void refused(Script s) {
        s.refuses("DOWN", 3, 4, SOME + "; crash -> true", "move 0 0 2 -> DOWN");
        s.refuses("BAD when there is no such volume", 3, 4, MOVING,
                "move 2 0 2 -> BAD; move 3 0 2 -> BAD; move -1 0 2 -> BAD; move 4 0 2 -> BAD; move MAX 0 2 -> BAD",
                "move MIN 0 2 -> BAD");
        s.refuses("BAD when there is no such extent number", 3, 4, MOVING,
                "move 0 2 2 -> BAD; move 0 -1 2 -> BAD; move 1 1 2 -> BAD; move 0 12 2 -> BAD; move 0 MAX 2 -> BAD",
                "move 0 MIN 2 -> BAD");
        s.refuses("BAD when there is no such disk", 3, 4, MOVING,
                "move 0 0 3 -> BAD; move 0 0 -1 -> BAD; move 0 0 5 -> BAD; move 0 0 MAX -> BAD; move 0 0 MIN -> BAD");
        s.refuses("FEW although there is a move", 3, 4, MOVING + "; pull 1 -> true; pull 2 -> true",
                "move 0 0 0 -> FEW");
        s.refuses("FEW", 3, 4, SOME + "; pull 1 -> true; pull 2 -> true", "move 0 0 0 -> FEW");
        s.refuses("BUSY when there is a move", 3, 4,
                "create 1 1 2 -> 0; create 1 1 1 -> 1; move 0 0 1 -> 0; step -> 3; arm 2 -> true",
                "move 0 0 1 -> BUSY; move 0 0 2 -> BUSY; move 0 1 2 -> BUSY; move 1 0 0 -> BUSY");
        s.refuses("BUSY when there is a move of which all is copied", 3, 4,
                "create 1 1 1 -> 0; move 0 0 1 -> 0; step -> 3; step -> 2; step -> 1; step -> 0",
                "move 0 0 2 -> BUSY");
        s.refuses("MISSING when the source's disk is away", 3, 4, SOME + "; pull 0 -> true",
                "move 0 0 2 -> MISSING; move 0 0 0 -> MISSING");
        s.refuses("MISSING when this disk is away", 3, 4, SOME + "; pull 2 -> true",
                "move 0 0 2 -> MISSING; move 1 0 2 -> MISSING");
        s.run("not MISSING when a third disk is away", 3, 4, "create 2 1 1 -> 0; pull 1 -> true; move 0 0 2 -> 0");
        s.refuses("SPACE when this disk has no free extent", 3, 2,
                "create 3 1 1 -> 0; create 2 1 1 -> 1; arm 1 -> true",
                "move 0 0 0 -> SPACE; move 0 0 1 -> SPACE; move 0 2 0 -> SPACE");
        s.run("not SPACE when this disk has one", 3, 2, "create 3 1 1 -> 0; create 2 1 1 -> 1; move 0 0 2 -> 0");
        s.run("STOPPED", 3, 2,
                "create 1 1 1 -> 0; arm 0 -> true; move 0 0 1 -> STOPPED; moving -> DOWN; activate -> 2",
                "moving -> IDLE; free 1 -> 2; arm 2 -> true; move 0 0 1 -> STOPPED; activate -> 3; moving -> 0",
                "free 1 -> 1");
    }

    private static void inOrder(Script s) {
        s.run("DOWN, BAD, FEW, BUSY, MISSING, SPACE, STOPPED", 5, 2,
                "create 4 1 1 -> 0; create 4 1 1 -> 1; where 1 0 -> 1; where 1 3 -> 64; arm 0 -> true",
                "move 0 1 0 -> SPACE; pull 0 -> true; move 0 1 0 -> MISSING; move 0 0 1 -> MISSING; plug 0 -> true",
                "arm 100 -> true; move 0 1 4 -> 0; arm 0 -> true; move 0 1 0 -> BUSY; pull 0 -> true",
                "move 0 1 0 -> BUSY; move 0 0 0 -> BUSY; pull 1 -> true; move 0 0 1 -> BUSY; pull 2 -> true",
                "move 0 1 0 -> FEW; move 0 0 5 -> BAD; move 0 4 0 -> BAD; move 2 0 0 -> BAD; crash -> true",
                "move 2 0 0 -> DOWN; move 0 0 0 -> DOWN");
        s.run("FEW before MISSING and SPACE", 3, 2,
                "create 3 1 2 -> 0; pull 0 -> true; pull 1 -> true; move 0 0 2 -> FEW; move 0 2 2 -> FEW",
                "move 0 2 0 -> FEW");
    }
}
