/** Promises 8 read and 9 write. */
public final class CellsTest {
    public static void main(String[] args) {
        Script s = new Script();
        striped(s);
        refused(s);
        overAMove(s);
        stopped(s);
        for (int width = 1; width <= 4; width++) {
            for (int chunk = 1; chunk <= 4; chunk *= 2) {
                everyBlock(s, width, chunk);
            }
        }
        s.end();
    }

    // Which extent and cell a block lies in is seen afterwards through a volume of width 1 that takes the
    // same extents: its block b is cell b mod 4 of its extent b / 4.
    private static void striped(Script s) {
        s.run("chunk 1, width 2", 2, 2,
                "create 2 1 1 -> 0; write 0 0 10 -> 1; write 0 1 11 -> 1; write 0 2 12 -> 1; write 0 7 17 -> 1; reduce 0 1 -> 0",
                "create 1 4 2 -> 0; read 0 0 -> 10; read 0 1 -> 12; read 0 4 -> 11; read 0 7 -> 17; read 0 2 -> 0");
        s.run("chunk 2, width 2", 2, 2,
                "create 2 2 1 -> 0; write 0 0 10 -> 1; write 0 1 11 -> 1; write 0 2 12 -> 1; write 0 4 14 -> 1; write 0 7 17 -> 1",
                "reduce 0 1 -> 0; create 1 1 2 -> 0; read 0 0 -> 10; read 0 1 -> 11; read 0 4 -> 12; read 0 2 -> 14; read 0 7 -> 17");
        s.run("chunk 4, width 2", 2, 2,
                "create 2 4 1 -> 0; write 0 3 13 -> 1; write 0 4 14 -> 1; write 0 6 16 -> 1; reduce 0 1 -> 0",
                "create 1 2 2 -> 0; read 0 3 -> 13; read 0 4 -> 14; read 0 6 -> 16");
        s.run("chunk 2, width 3, second row", 3, 2,
                "create 3 2 2 -> 0; write 0 14 14 -> 1; write 0 17 17 -> 1; write 0 18 18 -> 1; write 0 23 23 -> 1; reduce 0 2 -> 0",
                "create 1 1 6 -> 0; where 0 3 -> 1; where 0 4 -> 17; where 0 5 -> 33",
                "read 0 16 -> 14; read 0 21 -> 17; read 0 14 -> 18; read 0 23 -> 23");
        s.run("numbers of cells", 2, 2,
                "create 1 1 1 -> 0; write 0 0 MAX -> 1; read 0 0 -> MAX; write 0 0 0 -> 1; read 0 0 -> 0; sequence -> 2");
    }

    private static void everyBlock(Script s, int width, int chunk) {
        ExtentGroup group = new ExtentGroup(5, 10);
        int rows = 12 / width;
        group.create(width, chunk, rows);
        int blocks = 4 * width * rows;
        for (int b = 0; b < blocks; b++) {
            s.due("write(0, " + b + ")", group.write(0, b, 1000 + b), 1);
        }
        for (int b = 0; b < blocks; b++) {
            s.due("width " + width + ", chunk " + chunk + ": read(0, " + b + ")", group.read(0, b), 1000 + b);
        }
        s.due("read behind the last", group.read(0, blocks), ExtentGroup.BAD);
        s.due("write behind the last", group.write(0, blocks, 1), ExtentGroup.BAD);
    }

    private static void refused(Script s) {
        s.run("BAD", 3, 3,
                "read 0 0 -> BAD; write 0 0 1 -> BAD; create 2 1 1 -> 0; read 0 8 -> BAD; read 0 -1 -> BAD; read 0 MAX -> BAD; read 0 MIN -> BAD",
                "read -1 0 -> BAD; read 4 0 -> BAD; read 1 0 -> BAD; write 0 8 1 -> BAD; write 0 -1 1 -> BAD; write 0 MAX 1 -> BAD",
                "write -1 0 1 -> BAD; write 4 0 1 -> BAD; write 0 0 -1 -> BAD; write 0 0 MIN -> BAD; read 0 0 -> 0");
        s.run("DOWN before BAD before MISSING", 3, 3,
                "create 2 1 1 -> 0; write 0 0 5 -> 1; pull 0 -> true; read 0 0 -> MISSING; write 0 0 6 -> MISSING; read 0 1 -> 0",
                "write 0 1 7 -> 1; read 0 8 -> BAD; write 0 0 -1 -> BAD; pull 2 -> true; read 0 1 -> 7; write 0 1 8 -> 1",
                "plug 0 -> true; read 0 0 -> 5; crash -> true; read 0 0 -> DOWN; read 9 9 -> DOWN; write 0 0 1 -> DOWN; write 9 9 -1 -> DOWN");
    }

    private static void overAMove(Script s) {
        s.run("copied cells are written twice", 2, 3,
                "create 1 4 2 -> 0; move 0 0 1 -> 0; write 0 0 1 -> 1; step -> 3; step -> 2; write 0 0 2 -> 2; write 0 1 3 -> 2",
                "write 0 2 4 -> 1; write 0 4 5 -> 1; read 0 0 -> 2; step -> 1; step -> 0; write 0 3 6 -> 2; step -> 4",
                "read 0 0 -> 2; read 0 1 -> 3; read 0 2 -> 4; read 0 3 -> 6; write 0 0 9 -> 1");
        s.run("another volume's extent of the same number", 2, 3,
                "create 1 4 1 -> 0; create 1 4 1 -> 1; move 1 0 0 -> 0; step -> 3; write 0 0 5 -> 1; write 1 0 5 -> 2");
        s.run("the target's disk away", 3, 3,
                "create 1 4 1 -> 0; move 0 0 1 -> 0; step -> 3; pull 1 -> true; write 0 0 5 -> MISSING; read 0 0 -> 0; write 0 1 6 -> 1",
                "read 0 1 -> 6; plug 1 -> true; write 0 0 5 -> 2; pull 0 -> true; write 0 0 7 -> MISSING; read 0 0 -> MISSING");
    }

    private static void stopped(Script s) {
        s.run("STOPPED at the first act", 2, 3,
                "create 1 4 1 -> 0; write 0 0 5 -> 1; arm 0 -> true; write 0 0 6 -> STOPPED; read 0 0 -> DOWN; activate -> 2; read 0 0 -> 5");
        s.run("STOPPED at the second act", 2, 3,
                "create 1 4 1 -> 0; write 0 0 5 -> 1; move 0 0 1 -> 0; step -> 3; arm 1 -> true; write 0 0 6 -> STOPPED",
                "activate -> 3; read 0 0 -> 6; cancel -> 0; create 1 4 1 -> 1; where 1 0 -> 16; read 1 0 -> 5");
    }
}
