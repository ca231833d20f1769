/** Promises 2 create, 3 extend, 4 reduce, 15 where, 16 rows, 17 free. */
public final class VolumesTest {
    public static void main(String[] args) {
        Script s = new Script();
        createdRows(s);
        createRefused(s);
        extended(s);
        extendRefused(s);
        reduced(s);
        reduceRefused(s);
        asked(s);
        s.end();
    }

    private static void createdRows(Script s) {
        s.run("rows go to the disks with the most free extents", 4, 3,
                "create 1 1 1 -> 0; where 0 0 -> 0; create 2 1 1 -> 1; where 1 0 -> 16; where 1 1 -> 32",
                "create 3 2 2 -> 2; where 2 0 -> 1; where 2 1 -> 17; where 2 2 -> 48",
                "where 2 3 -> 2; where 2 4 -> 33; where 2 5 -> 49; sequence -> 4");
        s.run("a column order by number, not by room", 3, 4,
                "create 1 1 1 -> 0; create 2 1 1 -> 1; where 1 0 -> 16; where 1 1 -> 32",
                "reduce 0 1 -> 0; create 2 1 1 -> 0; where 0 0 -> 0; where 0 1 -> 17",
                "create 2 1 1 -> 2; where 2 0 -> 1; where 2 1 -> 33");
        s.run("disks away are passed over", 3, 3,
                "pull 0 -> true; create 2 4 2 -> 0; where 0 0 -> 16; where 0 1 -> 32; where 0 2 -> 17",
                "create 3 1 1 -> SPACE; plug 0 -> true; create 3 1 1 -> 1; where 1 0 -> 0");
        s.run("the least number that is not there", 5, 10,
                "create 1 1 1 -> 0; create 1 1 1 -> 1; create 1 1 1 -> 2; create 1 1 1 -> 3; create 1 1 1 -> MANY",
                "reduce 2 1 -> 0; reduce 1 1 -> 0; create 1 1 1 -> 1; create 1 1 1 -> 2; sequence -> 9");
        s.run("the least free extent is taken again, as it was", 2, 4,
                "create 2 1 1 -> 0; create 2 1 1 -> 1; write 0 0 44 -> 1; reduce 0 1 -> 0",
                "create 2 4 1 -> 0; where 0 0 -> 0; where 0 1 -> 16; read 0 0 -> 44");
        s.run("the largest", 5, 10, "create 1 4 12 -> 0; create 2 2 6 -> 1; create 3 1 4 -> 2; create 4 1 3 -> 3",
                "rows 0 -> 12; rows 1 -> 6; rows 2 -> 4; rows 3 -> 3");
        s.run("the target of a move is not free", 2, 3,
                "create 1 1 1 -> 0; move 0 0 1 -> 0; free 1 -> 2; create 2 1 1 -> 1; where 1 0 -> 1; where 1 1 -> 17",
                "free 0 -> 1; free 1 -> 1; create 1 1 3 -> SPACE; create 1 1 2 -> 2");
    }

    private static void createRefused(Script s) {
        s.run("create: BAD", 5, 10,
                "create 0 1 1 -> BAD; create 5 1 1 -> BAD; create -1 1 1 -> BAD; create MIN 1 1 -> BAD",
                "create 1 0 1 -> BAD; create 1 3 1 -> BAD; create 1 5 1 -> BAD; create 1 8 1 -> BAD; create 1 -1 1 -> BAD",
                "create 1 1 0 -> BAD; create 1 1 -1 -> BAD; create 1 1 13 -> BAD; create 2 1 7 -> BAD",
                "create 3 1 5 -> BAD; create 4 1 4 -> BAD; create 4 1 MAX -> BAD; create 4 1 1073741824 -> BAD",
                "create 2 1 MIN -> BAD; sequence -> 1; slot 0 1 -> 0");
        s.run("create: DOWN before BAD before FEW before MANY before SPACE", 3, 2,
                "create 1 1 2 -> 0; create 1 1 1 -> 1; create 1 1 1 -> 2; create 1 1 3 -> SPACE; create 1 1 1 -> 3",
                "create 1 1 12 -> MANY; pull 0 -> true; create 1 1 12 -> MANY; pull 1 -> true; create 1 1 1 -> FEW",
                "create 0 1 1 -> BAD; crash -> true; create 0 1 1 -> DOWN; create 1 1 1 -> DOWN");
        s.run("create: SPACE changes nothing", 3, 2,
                "create 3 1 3 -> SPACE; free 0 -> 2; sequence -> 1; rows 0 -> BAD; slot 0 1 -> 0",
                "create 4 1 1 -> SPACE; create 3 1 2 -> 0; free 0 -> 0; create 1 1 1 -> SPACE");
        s.run("create: half of the disks are no quorum", 4, 2,
                "pull 0 -> true; create 1 1 1 -> 0; pull 1 -> true; create 1 1 1 -> FEW; sequence -> 2");
        s.run("create: STOPPED", 2, 2, "arm 0 -> true; create 1 1 1 -> STOPPED; slot 0 1 -> TORN; slot 1 1 -> 0",
                "activate -> 1; rows 0 -> BAD; free 0 -> 2; create 1 1 1 -> 0; slot 0 1 -> 2");
    }

    private static void extended(Script s) {
        s.run("extend", 3, 5,
                "create 2 1 1 -> 0; extend 0 1 -> 2; where 0 2 -> 1; where 0 3 -> 32; sequence -> 3",
                "extend 0 2 -> 4; where 0 4 -> 17; where 0 5 -> 33; where 0 6 -> 2; where 0 7 -> 18",
                "where 0 0 -> 0; where 0 1 -> 16; where 0 8 -> BAD; sequence -> 4; extend 0 2 -> 6; rows 0 -> 6");
        s.run("extend keeps what the old rows have", 2, 5,
                "create 2 2 1 -> 0; write 0 7 70 -> 1; extend 0 1 -> 2; read 0 7 -> 70; write 0 15 71 -> 1; read 0 15 -> 71");
        s.run("extend of another volume than the one that moves", 2, 5,
                "create 1 1 1 -> 0; create 1 1 1 -> 1; move 0 0 1 -> 0; step -> 3; extend 1 1 -> 2; moving -> 16");
    }

    private static void extendRefused(Script s) {
        s.run("extend: BAD", 5, 10,
                "extend 0 1 -> BAD; create 3 1 2 -> 0; extend 0 3 -> BAD; extend 0 MAX -> BAD; extend 0 0 -> BAD",
                "extend 0 -1 -> BAD; extend 0 MIN -> BAD; extend 1 1 -> BAD; extend -1 1 -> BAD; extend 4 1 -> BAD",
                "extend MAX 1 -> BAD; extend 0 1431655764 -> BAD; sequence -> 2; extend 0 2 -> 4; extend 0 1 -> BAD",
                "create 1 4 12 -> 1; extend 1 1 -> BAD");
        s.run("extend: DOWN before BAD before FEW before BUSY before SPACE", 3, 2,
                "create 1 1 1 -> 0; move 0 0 1 -> 0; extend 0 11 -> BUSY; extend 0 12 -> BAD; pull 0 -> true",
                "extend 0 1 -> BUSY; pull 2 -> true; extend 0 1 -> FEW; extend 1 1 -> BAD; crash -> true; extend 1 1 -> DOWN");
        s.run("extend: SPACE changes nothing", 2, 2,
                "create 2 1 1 -> 0; extend 0 2 -> SPACE; rows 0 -> 1; free 0 -> 1; where 0 2 -> BAD; extend 0 1 -> 2",
                "sequence -> 3; extend 0 1 -> SPACE");
        s.run("extend: STOPPED", 3, 4, "create 1 1 1 -> 0; arm 1 -> true; extend 0 1 -> STOPPED; rows 0 -> DOWN",
                "activate -> 2; rows 0 -> 1; extend 0 1 -> 2");
    }

    private static void reduced(Script s) {
        s.run("reduce", 3, 4,
                "create 2 1 4 -> 0; reduce 0 1 -> 3; rows 0 -> 3; where 0 6 -> BAD; where 0 5 -> 33; sequence -> 3",
                "reduce 0 2 -> 1; free 0 -> 3; free 1 -> 3; free 2 -> 4; where 0 1 -> 16; reduce 0 1 -> 0",
                "rows 0 -> BAD; where 0 0 -> BAD; read 0 0 -> BAD; free 0 -> 4; sequence -> 5");
        s.run("reduce needs no disk of the volume", 3, 4,
                "create 1 1 1 -> 0; pull 0 -> true; reduce 0 1 -> 0; free 0 -> 4; slot 0 2 -> 0; slot 1 2 -> 3");
    }

    private static void reduceRefused(Script s) {
        s.run("reduce: BAD", 3, 4,
                "reduce 0 1 -> BAD; create 1 1 2 -> 0; reduce 0 3 -> BAD; reduce 0 0 -> BAD; reduce 0 -1 -> BAD",
                "reduce 0 MAX -> BAD; reduce 0 MIN -> BAD; reduce -1 1 -> BAD; reduce 4 1 -> BAD; reduce 1 1 -> BAD; sequence -> 2");
        s.run("reduce: DOWN before BAD before FEW before BUSY", 3, 4,
                "create 1 1 2 -> 0; create 1 1 1 -> 1; move 0 0 1 -> 0; reduce 0 1 -> BUSY; reduce 0 3 -> BAD",
                "reduce 1 1 -> 0; moving -> 0; pull 0 -> true; pull 1 -> true; reduce 0 1 -> FEW; reduce 0 3 -> BAD",
                "crash -> true; reduce 0 3 -> DOWN; reduce 0 1 -> DOWN");
        s.run("reduce: STOPPED", 3, 4, "create 1 1 2 -> 0; arm 2 -> true; reduce 0 1 -> STOPPED; activate -> 3; rows 0 -> 1");
    }

    private static void asked(Script s) {
        s.run("where, rows, free: BAD", 3, 4,
                "create 2 1 1 -> 0; where 0 -1 -> BAD; where 0 2 -> BAD; where 1 0 -> BAD; where -1 0 -> BAD; where 4 0 -> BAD",
                "where MAX MIN -> BAD; where 0 MAX -> BAD; where 0 1 -> 16; rows -1 -> BAD; rows 1 -> BAD; rows 4 -> BAD; rows MIN -> BAD",
                "free -1 -> BAD; free 3 -> BAD; free MAX -> BAD; free 2 -> 4");
        s.run("where, rows, free of disks away", 3, 4,
                "create 2 1 1 -> 0; pull 0 -> true; pull 1 -> true; where 0 0 -> 0; where 0 1 -> 16; rows 0 -> 1; free 0 -> 3; free 1 -> 3");
        s.run("where, rows, free: DOWN before BAD", 3, 4,
                "create 2 1 1 -> 0; crash -> true; where 0 0 -> DOWN; where 9 9 -> DOWN; rows 0 -> DOWN; rows 9 -> DOWN",
                "free 0 -> DOWN; free 9 -> DOWN; sequence -> DOWN; moving -> DOWN");
    }
}
