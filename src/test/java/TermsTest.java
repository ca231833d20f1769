import java.util.HashSet;
import java.util.Set;

/** The terms of disks, volumes, maps and room; those of acts are in StopTest, those of copies in CommitTest. */
public final class TermsTest {
    public static void main(String[] args) {
        Script s = new Script();
        for (int disks = 2; disks <= 5; disks++) {
            for (int away = 0; away <= disks; away++) {
                quorum(s, disks, away);
            }
        }
        for (int extents = 2; extents <= 10; extents++) {
            fullDisks(s, extents);
        }
        for (int width = 1; width <= 4; width++) {
            for (int chunk = 1; chunk <= 4; chunk *= 2) {
                everyBlock(s, width, chunk);
            }
        }
        volumes(s);
        noExtentIsUsedTwice(s);
        freeExtents(s);
        moves(s);
        room(s);
        lastCall(s);
        neverThrows();
        s.end();
    }

    private static void quorum(Script s, int disks, int away) {
        boolean enough = disks - away > disks / 2;
        String title = "a quorum is more than half of the disks: " + away + " of " + disks + " away";
        ExtentGroup group = new ExtentGroup(disks, 2);
        for (int d = 0; d < away; d++) {
            group.pull(d);
        }
        s.due(title + ": create", group.create(1, 1, 1), enough ? 0 : ExtentGroup.FEW);
        group.crash();
        s.due(title + ": activate", group.activate(), enough ? 2 : ExtentGroup.FEW);
    }

    private static void fullDisks(Script s, int extents) {
        String title = "extents 0 .. E - 1, E = " + extents;
        int rows = Math.min(extents, 6);
        ExtentGroup group = s.run(title, 2, extents, "create 2 1 " + rows + " -> 0");
        if (extents > rows) {
            s.go(title, group, "create 2 1 " + (extents - rows) + " -> 1");
        }
        int last = extents > rows ? 1 : 0;
        int lastNumber = 2 * (extents > rows ? extents - rows : rows) - 1;
        s.due(title + ": the last one", group.where(last, lastNumber), 16 + extents - 1);
        s.go(title + ": full", group, "free 0 -> 0; free 1 -> 0; create 1 1 1 -> SPACE; move 0 0 0 -> SPACE");
    }

    // Which extent and cell a block lies in is seen afterwards through a volume of width 1 that takes the
    // same extents in its own order: its block b is cell b mod 4 of its extent b / 4.
    private static void everyBlock(Script s, int width, int chunk) {
        String title = "width " + width + ", chunk " + chunk + ": block ";
        ExtentGroup group = new ExtentGroup(5, 10);
        group.create(width, chunk, 12 / width);
        int[] places = new int[12];
        for (int e = 0; e < 12; e++) {
            places[e] = group.where(0, e);
        }
        for (int b = 0; b < 48; b++) {
            s.due(title + b + " written", group.write(0, b, 1000 + b), 1);
        }
        s.due(title + "behind the last", group.write(0, 48, 1), ExtentGroup.BAD);
        for (int b = 0; b < 48; b++) {
            s.due(title + b + " read", group.read(0, b), 1000 + b);
        }
        group.reduce(0, 12 / width);
        group.create(1, 4, 12);
        int[] linear = new int[16 * 5];
        for (int e = 0; e < 12; e++) {
            linear[group.where(0, e)] = e;
        }
        for (int b = 0; b < 48; b++) {
            int row = b / (4 * width);
            int c = b % (4 * width);
            int column = c / chunk % width;
            int cell = c / chunk / width * chunk + c % chunk;
            int at = 4 * linear[places[width * row + column]] + cell;
            s.due(title + b + " lies in its cell", group.read(0, at), 1000 + b);
        }
    }

    private static void volumes(Script s) {
        s.run("volumes are 0 .. 3", 5, 10,
                "create 1 1 1 -> 0; create 1 1 1 -> 1; create 1 1 1 -> 2; create 1 1 1 -> 3; create 1 1 1 -> MANY",
                "rows 3 -> 1; rows 4 -> BAD; rows -1 -> BAD");
        s.run("extents are numbered row by row, w * row + column", 3, 4,
                "create 3 1 3 -> 0; where 0 0 -> 0; where 0 1 -> 16; where 0 2 -> 32; where 0 3 -> 1",
                "where 0 4 -> 17; where 0 8 -> 34");
        s.run("chunk 1, width 2: by hand", 2, 2,
                "create 2 1 1 -> 0; write 0 0 10 -> 1; write 0 1 11 -> 1; write 0 2 12 -> 1; write 0 7 17 -> 1",
                "reduce 0 1 -> 0; create 1 4 2 -> 0; read 0 0 -> 10; read 0 1 -> 12; read 0 4 -> 11; read 0 7 -> 17",
                "read 0 2 -> 0");
        s.run("chunk 2, width 2: by hand", 2, 2,
                "create 2 2 1 -> 0; write 0 0 10 -> 1; write 0 1 11 -> 1; write 0 2 12 -> 1; write 0 4 14 -> 1",
                "write 0 7 17 -> 1; reduce 0 1 -> 0; create 1 1 2 -> 0; read 0 0 -> 10; read 0 1 -> 11",
                "read 0 4 -> 12; read 0 2 -> 14; read 0 7 -> 17");
        s.run("chunk 4, width 2: by hand", 2, 2,
                "create 2 4 1 -> 0; write 0 3 13 -> 1; write 0 4 14 -> 1; write 0 6 16 -> 1; reduce 0 1 -> 0",
                "create 1 2 2 -> 0; read 0 3 -> 13; read 0 4 -> 14; read 0 6 -> 16");
        s.run("chunk 2, width 3, second row: by hand", 3, 2,
                "create 3 2 2 -> 0; write 0 14 14 -> 1; write 0 17 17 -> 1; write 0 18 18 -> 1; write 0 23 23 -> 1",
                "reduce 0 2 -> 0; create 1 1 6 -> 0; where 0 3 -> 1; where 0 4 -> 17; where 0 5 -> 33",
                "read 0 16 -> 14; read 0 21 -> 17; read 0 14 -> 18; read 0 23 -> 23");
        s.run("each cell a number 0 .. 2^31 - 1", 2, 2,
                "create 1 1 1 -> 0; write 0 0 MAX -> 1; write 0 1 0 -> 1; read 0 0 -> MAX; read 0 1 -> 0");
    }

    private static void noExtentIsUsedTwice(Script s) {
        ExtentGroup group = s.run("no extent is used twice", 5, 10,
                "create 4 1 2 -> 0; create 3 1 4 -> 1; create 1 1 12 -> 2; create 2 1 6 -> 3; extend 0 1 -> 3",
                "move 0 0 4 -> 0; step -> 3; step -> 2; step -> 1; step -> 0; step -> 4; reduce 3 3 -> 3",
                "extend 3 3 -> 6");
        Set<Integer> places = new HashSet<>();
        for (int v = 0; v < 4; v++) {
            for (int e = 0; e < 12; e++) {
                int place = group.where(v, e);
                s.due("no extent is used twice: where " + v + " " + e, places.add(place) && place >= 0 ? 1 : 0, 1);
            }
        }
    }

    private static void freeExtents(Script s) {
        s.run("an extent is free when no volume of the present map has it", 2, 4,
                "create 2 1 1 -> 0; create 2 1 1 -> 1; free 0 -> 2; reduce 0 1 -> 0; free 0 -> 3; create 1 1 1 -> 0",
                "where 0 0 -> 0; free 0 -> 2");
        s.run("and it is not the target of its move", 2, 3,
                "create 1 1 1 -> 0; move 0 0 1 -> 0; free 1 -> 2; create 2 1 1 -> 1; where 1 0 -> 1",
                "where 1 1 -> 17; cancel -> 0; free 1 -> 2; create 1 1 1 -> 2; where 2 0 -> 16");
        s.run("of the present map: not of one that was never committed", 2, 3,
                "create 2 1 4 -> SPACE; free 0 -> 3; free 1 -> 3; create 1 1 1 -> 0; where 0 0 -> 0");
        s.run("of the present map: not of an older one", 3, 3,
                "create 1 1 3 -> 0; reduce 0 2 -> 1; free 1 -> 3; free 2 -> 3");
        s.run("cells keep their numbers when an extent is given back", 2, 4,
                "create 2 1 1 -> 0; write 0 0 44 -> 1; reduce 0 1 -> 0; create 2 4 1 -> 0; where 0 0 -> 0",
                "read 0 0 -> 44");
    }

    // What is copied to the target is seen when the move is given up and a volume of width 1 takes it.
    private static void moves(Script s) {
        String begun = "create 1 4 1 -> 0; write 0 0 1 -> 1; write 0 1 2 -> 1; write 0 2 3 -> 1; write 0 3 4 -> 1; "
                + "move 0 0 1 -> 0";
        String seen = "cancel -> 0; create 1 4 1 -> 1; where 1 0 -> 16";
        s.run("at first none of the source's cells is copied", 2, 2, begun,
                "moving -> 0",
                seen,
                "read 1 0 -> 0; read 1 3 -> 0");
        s.run("then the cells 0, 1, .. one after the other: 0", 2, 2, begun,
                "step -> 3",
                seen,
                "read 1 0 -> 1; read 1 1 -> 0; read 1 2 -> 0; read 1 3 -> 0");
        s.run("then the cells 0, 1, .. one after the other: 1", 2, 2, begun,
                "step -> 3; step -> 2",
                seen,
                "read 1 0 -> 1; read 1 1 -> 2; read 1 2 -> 0; read 1 3 -> 0");
        s.run("then the cells 0, 1, .. one after the other: 2", 2, 2, begun,
                "step -> 3; step -> 2; step -> 1",
                seen,
                "read 1 1 -> 2; read 1 2 -> 3; read 1 3 -> 0");
        s.run("then the cells 0, 1, .. one after the other: 3", 2, 2, begun,
                "step -> 3; step -> 2; step -> 1; step -> 0",
                seen,
                "read 1 0 -> 1; read 1 2 -> 3; read 1 3 -> 4");
        s.run("each by an act", 2, 2, begun, "arm 2 -> true; step -> 3; step -> 2; step -> STOPPED");
        s.run("to the target's extent, not to the first of its disk", 2, 3,
                "create 1 4 2 -> 0; write 0 0 5 -> 1; write 0 4 6 -> 1; move 0 0 1 -> 0; step -> 3; read 0 4 -> 6",
                "cancel -> 0; create 1 4 2 -> 1; where 1 1 -> 17; read 1 4 -> 5");
    }

    private static void room(Script s) {
        s.run("a row takes present disks", 3, 3,
                "pull 0 -> true; create 2 4 2 -> 0; where 0 0 -> 16; where 0 1 -> 32; where 0 2 -> 17",
                "where 0 3 -> 33");
        s.run("with a free extent", 3, 2,
                "create 1 1 1 -> 0; create 1 1 1 -> 1; reduce 0 1 -> 0; pull 2 -> true; create 1 1 2 -> 0",
                "plug 2 -> true; create 3 1 1 -> SPACE; create 2 1 1 -> 2; where 2 0 -> 17; where 2 1 -> 32");
        s.run("those with the most free extents", 4, 3,
                "create 1 1 1 -> 0; where 0 0 -> 0; create 2 1 1 -> 1; where 1 0 -> 16; where 1 1 -> 32",
                "create 1 1 1 -> 2; where 2 0 -> 48");
        s.run("among equal ones the lesser numbers", 5, 3,
                "create 3 1 1 -> 0; where 0 0 -> 0; where 0 1 -> 16; where 0 2 -> 32");
        s.run("in the ascending order of their numbers for its columns", 4, 3,
                "create 1 1 1 -> 0; create 2 1 1 -> 1; create 3 2 1 -> 2; where 2 0 -> 1; where 2 1 -> 17",
                "where 2 2 -> 48");
        s.run("of each its least free extent", 3, 4,
                "create 1 1 1 -> 0; create 2 1 1 -> 1; create 3 1 1 -> 2; reduce 0 1 -> 0; create 1 1 1 -> 0",
                "where 0 0 -> 0; reduce 1 1 -> 0; create 2 1 1 -> 1; where 1 0 -> 16; where 1 1 -> 32");
        s.run("rows are taken one after the other", 3, 3,
                "create 2 1 4 -> 0; where 0 0 -> 0; where 0 1 -> 16; where 0 2 -> 1; where 0 3 -> 32",
                "where 0 4 -> 17; where 0 5 -> 33; where 0 6 -> 2; where 0 7 -> 18");
        s.run("so that a disk with much room takes several", 3, 4,
                "pull 2 -> true; create 2 1 2 -> 0; plug 2 -> true; create 1 1 3 -> 1; where 1 0 -> 32",
                "where 1 1 -> 33; where 1 2 -> 2");
        s.run("a row never takes two extents of a disk", 3, 4,
                "pull 2 -> true; create 2 1 4 -> 0; plug 2 -> true; free 2 -> 4; create 2 1 1 -> SPACE",
                "create 1 1 4 -> 1; free 2 -> 0");
    }

    private static void lastCall(Script s) {
        ExtentGroup group = s.run("an object is used for at most 512 calls", 5, 10, "create 4 4 1 -> 0");
        for (int i = 0; i < 255; i++) {
            s.due("extend, call " + (2 * i + 2), group.extend(0, 2), 3);
            s.due("reduce, call " + (2 * i + 3), group.reduce(0, 2), 1);
        }
        s.due("the 512th call", group.sequence(), 512);
    }

    // What later calls answer is free, but none may throw: an exception here ends the test with exit code 1.
    private static void neverThrows() {
        for (int seed = 0; seed < 20; seed++) {
            AnyCalls any = new AnyCalls(seed);
            ExtentGroup group = new ExtentGroup(any.disks(), any.extents());
            for (int i = 0; i < 10_000; i++) {
                String name = any.name();
                Script.call(group, name, any.arguments(name));
            }
        }
    }
}
