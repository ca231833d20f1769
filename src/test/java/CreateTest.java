/** Promise 2, create. */
public final class CreateTest {
    public static void main(String[] args) {
        Script s = new Script();
        created(s);
        refused(s);
        inOrder(s);
        s.end();
    }

    private static void created(Script s) {
        s.run("a new volume, with that width, chunk and rows", 5, 10,
                "create 2 1 3 -> 0; rows 0 -> 3; where 0 4 -> 1; where 0 5 -> 64; where 0 6 -> BAD; read 0 23 -> 0",
                "read 0 24 -> BAD");
        s.run("the new map is committed", 3, 4,
                "create 1 1 1 -> 0; sequence -> 2; slot 0 1 -> 2; slot 1 1 -> 2; slot 2 1 -> 2; slot 0 0 -> 1",
                "slot 0 2 -> 0; crash -> true; activate -> 2; rows 0 -> 1");
        s.run("the least number that is not there", 5, 10,
                "create 1 1 1 -> 0; create 1 1 1 -> 1; create 1 1 1 -> 2; create 1 1 1 -> 3; reduce 2 1 -> 0",
                "reduce 1 1 -> 0; create 1 1 1 -> 1; create 1 1 1 -> 2; reduce 3 1 -> 0; create 1 1 1 -> 3",
                "reduce 0 1 -> 0; create 1 1 1 -> 0");
        s.run("the least width, chunk and rows", 2, 2,
                "create 1 1 1 -> 0; rows 0 -> 1; read 0 3 -> 0; read 0 4 -> BAD");
        s.run("the greatest width and chunk", 4, 2, "create 4 4 1 -> 0; where 0 3 -> 48; where 0 4 -> BAD");
        s.run("a chunk of 2", 2, 2, "create 2 2 1 -> 0");
        s.run("width times rows just 12", 5, 10,
                "create 1 4 12 -> 0; create 2 2 6 -> 1; create 3 1 4 -> 2; create 4 1 3 -> 3; rows 0 -> 12",
                "rows 1 -> 6; rows 2 -> 4; rows 3 -> 3");
    }

    private static void refused(Script s) {
        String some = "create 1 1 2 -> 0; write 0 0 7 -> 1; move 0 1 0 -> 0; step -> 3";
        s.refuses("DOWN", 3, 4, some + "; crash -> true", "create 1 1 1 -> DOWN");
        s.refuses("BAD when width is not 1 .. 4", 5, 10, some,
                "create 0 1 1 -> BAD; create 5 1 1 -> BAD; create -1 1 1 -> BAD; create MIN 1 1 -> BAD",
                "create MAX 1 1 -> BAD");
        s.refuses("BAD when chunk not 1, 2 or 4", 5, 10, some,
                "create 1 0 1 -> BAD; create 1 3 1 -> BAD; create 1 5 1 -> BAD; create 1 6 1 -> BAD",
                "create 1 8 1 -> BAD; create 1 -1 1 -> BAD; create 1 -2 1 -> BAD; create 1 MIN 1 -> BAD",
                "create 1 MAX 1 -> BAD");
        s.refuses("BAD when rows less than 1", 5, 10, some,
                "create 1 1 0 -> BAD; create 4 1 0 -> BAD; create 1 1 -1 -> BAD; create 2 1 MIN -> BAD",
                "create 4 1 -1073741823 -> BAD");
        s.refuses("BAD when width times rows more than 12", 5, 10, some,
                "create 1 1 13 -> BAD; create 2 1 7 -> BAD; create 3 1 5 -> BAD; create 4 1 4 -> BAD");
        s.refuses("width times rows may be more than an int holds", 5, 10, some,
                "create 1 1 MAX -> BAD; create 2 1 MAX -> BAD; create 3 1 1431655766 -> BAD",
                "create 4 1 1073741824 -> BAD; create 4 1 1073741825 -> BAD; create 4 1 536870912 -> BAD");
        s.refuses("FEW", 3, 4, some + "; pull 0 -> true; pull 2 -> true", "create 1 1 1 -> FEW");
        s.refuses("FEW: half of the disks are no quorum", 4, 4, some + "; pull 0 -> true; pull 1 -> true",
                "create 1 1 1 -> FEW");
        s.refuses("MANY when all four volumes are there", 3, 4,
                "create 1 1 1 -> 0; create 1 1 1 -> 1; create 1 1 1 -> 2; create 1 1 1 -> 3; "
                        + "move 0 0 1 -> 0; step -> 3",
                "create 1 1 1 -> MANY");
        s.refuses("SPACE: fewer disks than the width", 2, 4, some, "create 3 1 1 -> SPACE; create 4 1 1 -> SPACE");
        s.refuses("SPACE: fewer present disks than the width", 3, 4, some + "; pull 1 -> true",
                "create 3 1 1 -> SPACE");
        s.refuses("SPACE: fewer disks with a free extent than the width", 3, 2,
                "create 3 1 1 -> 0; create 1 1 1 -> 1; create 1 1 1 -> 2; free 0 -> 0; free 1 -> 0; free 2 -> 1",
                "create 2 1 1 -> SPACE");
        s.refuses("SPACE: all is full", 2, 2, "create 2 1 2 -> 0; free 0 -> 0; free 1 -> 0", "create 1 1 1 -> SPACE");
        s.refuses("SPACE when there is no room for the last of the rows", 3, 2, "create 1 1 1 -> 0",
                "create 1 1 6 -> SPACE; create 2 1 3 -> SPACE");
        s.run("room for the last of the rows", 3, 2,
                "create 1 1 1 -> 0; create 1 1 5 -> 1; free 0 -> 0; free 1 -> 0; free 2 -> 0");
        s.refuses("SPACE: a move's target is not free", 2, 2,
                "create 1 1 2 -> 0; move 0 0 1 -> 0; step -> 3; free 0 -> 1; free 1 -> 0",
                "create 1 1 2 -> SPACE; create 2 1 1 -> SPACE");
        s.run("STOPPED", 2, 2,
                "arm 0 -> true; create 1 1 1 -> STOPPED; slot 0 1 -> TORN; slot 1 1 -> 0; activate -> 1",
                "rows 0 -> BAD; free 0 -> 2; create 1 1 1 -> 0; slot 0 1 -> 2");
    }

    private static void inOrder(Script s) {
        s.run("DOWN, BAD, FEW, MANY, SPACE, STOPPED", 3, 2,
                "create 1 1 2 -> 0; create 1 1 1 -> 1; create 1 1 1 -> 2; arm 0 -> true; create 1 1 3 -> SPACE",
                "arm 100 -> true; create 1 1 1 -> 3; arm 0 -> true; create 1 1 12 -> MANY; pull 0 -> true",
                "create 1 1 12 -> MANY; pull 1 -> true; create 1 1 12 -> FEW; create 0 1 1 -> BAD",
                "create 1 0 1 -> BAD; create 1 1 0 -> BAD; create 1 1 13 -> BAD; crash -> true",
                "create 0 1 1 -> DOWN; create 1 1 12 -> DOWN");
        s.run("FEW before SPACE", 3, 2,
                "create 3 1 2 -> 0; create 1 1 1 -> SPACE; pull 0 -> true; pull 1 -> true; create 1 1 1 -> FEW");
        s.run("BAD before MANY and SPACE", 2, 2,
                "create 1 1 1 -> 0; create 1 1 1 -> 1; create 1 1 1 -> 2; create 1 1 1 -> 3; create 5 1 1 -> BAD",
                "create 1 1 1 -> MANY");
        s.run("BAD before SPACE", 2, 2,
                "create 5 1 1 -> BAD; create 1 3 12 -> BAD; create 4 1 4 -> BAD; create 1 1 12 -> SPACE");
    }
}
