/** Promise 3, extend. */
public final class ExtendTest {
    private static final String SOME =
            "create 3 1 2 -> 0; create 1 1 1 -> 1; write 0 5 7 -> 1; move 1 0 0 -> 0; step -> 3";

    public static void main(String[] args) {
        Script s = new Script();
        extended(s);
        refused(s);
        inOrder(s);
        s.end();
    }

    private static void extended(Script s) {
        s.run("so many rows more, behind those it has", 3, 5,
                "create 2 1 1 -> 0; extend 0 1 -> 2; where 0 2 -> 1; where 0 3 -> 32; extend 0 2 -> 4",
                "where 0 4 -> 17; where 0 5 -> 33; where 0 6 -> 2; where 0 7 -> 18; where 0 0 -> 0; where 0 1 -> 16",
                "where 0 8 -> BAD");
        s.run("answers how many rows it has then", 5, 10,
                "create 1 1 1 -> 0; extend 0 1 -> 2; extend 0 10 -> 12; rows 0 -> 12");
        s.run("the new map is committed", 3, 5,
                "create 2 1 1 -> 0; extend 0 1 -> 2; sequence -> 3; slot 0 2 -> 3; slot 1 2 -> 3; slot 2 2 -> 3",
                "slot 0 1 -> 2; crash -> true; activate -> 3; rows 0 -> 2");
        s.run("the rows it has keep what they hold", 2, 5,
                "create 2 2 1 -> 0; write 0 7 70 -> 1; extend 0 1 -> 2; read 0 7 -> 70; write 0 15 71 -> 1",
                "read 0 15 -> 71; read 0 16 -> BAD");
        s.run("width times all its rows just 12", 5, 10,
                "create 1 1 11 -> 0; extend 0 1 -> 12; create 2 1 5 -> 1; extend 1 1 -> 6; create 3 1 3 -> 2",
                "extend 2 1 -> 4; create 4 1 2 -> 3; extend 3 1 -> 3");
    }

    private static void refused(Script s) {
        s.refuses("DOWN", 3, 4, SOME + "; crash -> true", "extend 0 1 -> DOWN");
        s.refuses("BAD when there is no such volume", 5, 10, SOME,
                "extend 2 1 -> BAD; extend 3 1 -> BAD; extend -1 1 -> BAD; extend 4 1 -> BAD; extend MAX 1 -> BAD",
                "extend MIN 1 -> BAD");
        s.refuses("BAD when a volume is not there any more", 5, 10, SOME + "; reduce 0 2 -> 0", "extend 0 1 -> BAD");
        s.refuses("BAD when rows is less than 1", 5, 10, SOME,
                "extend 0 0 -> BAD; extend 0 -1 -> BAD; extend 0 -2 -> BAD; extend 0 MIN -> BAD");
        s.refuses("BAD when its width times all its rows would be more than 12", 5, 10, SOME,
                "extend 0 3 -> BAD; extend 0 4 -> BAD");
        s.refuses("so for width 1", 5, 10, "create 1 1 11 -> 0", "extend 0 2 -> BAD");
        s.refuses("so for width 2", 5, 10, "create 2 1 5 -> 0", "extend 0 2 -> BAD");
        s.refuses("so for width 4", 5, 10, "create 4 1 2 -> 0", "extend 0 2 -> BAD");
        s.refuses("BAD for one that has all of them", 5, 10, "create 1 1 12 -> 0; create 4 1 3 -> 1",
                "extend 0 1 -> BAD; extend 1 1 -> BAD");
        s.refuses("width times all its rows may be more than an int holds", 5, 10, SOME,
                "extend 0 MAX -> BAD; extend 0 2147483646 -> BAD; extend 0 1431655764 -> BAD",
                "extend 0 1431655765 -> BAD");
        s.refuses("FEW", 3, 4, SOME + "; pull 0 -> true; pull 1 -> true", "extend 0 1 -> FEW");
        s.refuses("BUSY when the move is of an extent of this volume", 3, 4,
                "create 1 1 2 -> 0; move 0 1 0 -> 0; step -> 3; arm 2 -> true",
                "extend 0 1 -> BUSY");
        s.run("not BUSY when the move is of another volume", 3, 4,
                "create 1 1 1 -> 0; create 1 1 1 -> 1; move 0 0 1 -> 0; step -> 3; extend 1 1 -> 2; moving -> 16");
        s.run("not BUSY when the move has ended or was given up", 3, 4,
                "create 1 1 1 -> 0; move 0 0 1 -> 0; cancel -> 0; extend 0 1 -> 2; move 0 0 1 -> 0; step -> 3",
                "step -> 2; step -> 1; step -> 0; extend 0 1 -> BUSY; step -> 4; extend 0 1 -> 3");
        s.refuses("SPACE when there is no room for a row", 2, 2, "create 2 1 2 -> 0; arm 1 -> true",
                "extend 0 1 -> SPACE");
        s.refuses("SPACE when there is room for the first of the rows alone", 2, 2, "create 2 1 1 -> 0",
                "extend 0 2 -> SPACE");
        s.refuses("SPACE: the target of another volume's move is not free", 2, 3,
                "create 2 1 1 -> 0; create 1 1 1 -> 1; move 1 0 1 -> 0; step -> 3",
                "extend 0 2 -> SPACE");
        s.refuses("SPACE: disks away have no room", 3, 4, "create 3 1 1 -> 0; pull 1 -> true", "extend 0 1 -> SPACE");
        s.run("room for the last of the rows", 2, 2, "create 2 1 1 -> 0; extend 0 1 -> 2; free 0 -> 0; free 1 -> 0");
        s.run("STOPPED", 3, 4,
                "create 1 1 1 -> 0; arm 1 -> true; extend 0 1 -> STOPPED; rows 0 -> DOWN; activate -> 2",
                "rows 0 -> 1; extend 0 1 -> 2");
    }

    private static void inOrder(Script s) {
        s.run("DOWN, BAD, FEW, BUSY, SPACE, STOPPED", 3, 2,
                "create 1 1 1 -> 0; create 1 1 1 -> 1; move 0 0 1 -> 0; arm 0 -> true; extend 1 4 -> SPACE",
                "extend 0 11 -> BUSY; extend 0 12 -> BAD; extend 0 0 -> BAD; pull 0 -> true; extend 0 1 -> BUSY",
                "pull 2 -> true; extend 0 11 -> FEW; extend 1 4 -> FEW; extend 0 12 -> BAD; extend 2 1 -> BAD",
                "crash -> true; extend 2 1 -> DOWN; extend 0 1 -> DOWN");
    }
}
