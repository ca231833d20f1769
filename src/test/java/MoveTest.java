/** Promises 5 move, 6 step, 7 cancel, 18 moving. */
public final class MoveTest {
    public static void main(String[] args) {
        Script s = new Script();
        moved(s);
        moveRefused(s);
        stepped(s);
        stepRefused(s);
        cancelled(s);
        told(s);
        s.end();
    }

    private static void moved(Script s) {
        s.run("move", 3, 3,
                "create 1 1 3 -> 0; move 0 1 0 -> 0; sequence -> 3; free 0 -> 1; free 1 -> 2; where 0 1 -> 16; moving -> 1",
                "slot 2 2 -> 3");
        s.run("move on the same disk", 2, 2,
                "create 1 1 1 -> 0; write 0 2 9 -> 1; move 0 0 0 -> 0; free 0 -> 0; step -> 3; step -> 2; step -> 1; step -> 0",
                "step -> 4; where 0 0 -> 1; read 0 2 -> 9; free 0 -> 1; create 1 1 1 -> 1; where 1 0 -> 16",
                "create 1 1 1 -> 2; where 2 0 -> 0");
        s.run("a move to the least free extent", 2, 4,
                "create 1 1 6 -> 0; reduce 0 4 -> 2; create 1 1 1 -> 1; move 0 0 1 -> 0; step -> 3; step -> 2; step -> 1; step -> 0; step -> 4",
                "where 0 0 -> 17; where 0 1 -> 16; where 1 0 -> 1");
        s.run("a move to an extent that was given back", 2, 3,
                "create 1 1 1 -> 0; create 1 1 1 -> 1; reduce 1 1 -> 0; move 0 0 1 -> 0; step -> 3; step -> 2; step -> 1; step -> 0",
                "step -> 4; where 0 0 -> 16");
    }

    private static void moveRefused(Script s) {
        s.run("move: BAD", 3, 3,
                "move 0 0 0 -> BAD; create 2 1 1 -> 0; move 0 2 0 -> BAD; move 0 -1 0 -> BAD; move 0 MAX 0 -> BAD; move 1 0 0 -> BAD",
                "move -1 0 0 -> BAD; move 4 0 0 -> BAD; move 0 0 3 -> BAD; move 0 0 -1 -> BAD; move 0 0 MIN -> BAD; sequence -> 2",
                "moving -> IDLE");
        s.run("move: DOWN before BAD before FEW before BUSY before MISSING before SPACE", 5, 2,
                "create 4 1 1 -> 0; create 4 1 1 -> 1; pull 0 -> true; move 0 0 4 -> MISSING; where 1 0 -> 1; where 1 3 -> 64",
                "move 0 1 0 -> MISSING; plug 0 -> true; move 0 1 0 -> SPACE; move 0 1 4 -> 0; move 0 0 0 -> BUSY; pull 0 -> true",
                "move 0 0 0 -> BUSY; pull 1 -> true; pull 2 -> true; move 0 0 0 -> FEW; move 0 4 0 -> BAD; crash -> true",
                "move 0 4 0 -> DOWN; move 0 0 0 -> DOWN");
        s.run("move: MISSING before SPACE", 3, 2,
                "create 3 1 2 -> 0; move 0 0 1 -> SPACE; pull 1 -> true; move 0 0 1 -> MISSING; move 0 1 0 -> MISSING; move 0 0 2 -> SPACE");
        s.run("move: STOPPED", 3, 2,
                "create 1 1 1 -> 0; arm 0 -> true; move 0 0 1 -> STOPPED; moving -> DOWN; activate -> 2; moving -> IDLE; free 1 -> 2",
                "arm 2 -> true; move 0 0 1 -> STOPPED; activate -> 3; moving -> 0; free 1 -> 1");
    }

    private static void stepped(Script s) {
        s.run("step", 2, 2,
                "create 1 4 1 -> 0; write 0 0 1 -> 1; write 0 1 2 -> 1; write 0 2 3 -> 1; write 0 3 4 -> 1; move 0 0 1 -> 0",
                "step -> 3; moving -> 16; step -> 2; moving -> 32; step -> 1; moving -> 48; step -> 0; moving -> 64; sequence -> 3",
                "where 0 0 -> 0; step -> 4; sequence -> 4; where 0 0 -> 16; moving -> IDLE; free 0 -> 2; free 1 -> 1",
                "read 0 0 -> 1; read 0 1 -> 2; read 0 2 -> 3; read 0 3 -> 4; step -> IDLE; sequence -> 4");
        s.run("only the extent that moves gets its new place", 3, 3,
                "create 2 1 2 -> 0; where 0 0 -> 0; where 0 1 -> 16; where 0 2 -> 1; where 0 3 -> 32; move 0 1 2 -> 0",
                "step -> 3; step -> 2; step -> 1; step -> 0; step -> 4",
                "where 0 0 -> 0; where 0 1 -> 33; where 0 2 -> 1; where 0 3 -> 32; rows 0 -> 2");
        s.run("a move goes on over other commits", 3, 4,
                "create 1 1 1 -> 0; move 0 0 1 -> 0; step -> 3; step -> 2; create 1 1 1 -> 1; moving -> 32; extend 1 2 -> 3",
                "moving -> 32; reduce 1 3 -> 0; moving -> 32; step -> 1; sequence -> 6");
        s.run("a new start copies from the first cell", 3, 4,
                "create 1 1 1 -> 0; write 0 0 7 -> 1; move 0 0 1 -> 0; step -> 3; step -> 2; crash -> true; activate -> 3",
                "moving -> 0; write 0 0 8 -> 1; step -> 3; step -> 2; step -> 1; step -> 0; step -> 4; read 0 0 -> 8");
        s.run("a second move begins with no copied cell", 2, 4,
                "create 1 1 1 -> 0; move 0 0 1 -> 0; step -> 3; step -> 2; step -> 1; step -> 0; step -> 4; move 0 0 0 -> 0",
                "moving -> 0; step -> 3; cancel -> 0; move 0 0 0 -> 0; moving -> 0; step -> 3");
    }

    private static void stepRefused(Script s) {
        s.run("step: DOWN before IDLE before FEW before MISSING", 3, 3,
                "create 1 1 1 -> 0; pull 1 -> true; pull 2 -> true; step -> IDLE; plug 1 -> true; move 0 0 1 -> 0; step -> 3",
                "pull 1 -> true; step -> FEW; plug 2 -> true; step -> MISSING; plug 1 -> true; pull 0 -> true; step -> MISSING",
                "moving -> 16; crash -> true; step -> DOWN");
        s.run("step: MISSING when all are copied too", 3, 3,
                "create 1 1 1 -> 0; move 0 0 1 -> 0; step -> 3; step -> 2; step -> 1; step -> 0; pull 1 -> true; step -> MISSING",
                "plug 1 -> true; pull 0 -> true; step -> MISSING; plug 0 -> true; pull 2 -> true; step -> 4");
        s.run("step: STOPPED at a cell", 2, 3,
                "create 1 1 1 -> 0; create 1 1 1 -> 1; write 1 0 5 -> 1; reduce 1 1 -> 0; write 0 0 6 -> 1; move 0 0 1 -> 0",
                "arm 0 -> true; step -> STOPPED; activate -> 5; cancel -> 0; create 1 1 1 -> 1; where 1 0 -> 16; read 1 0 -> 5");
        s.run("step: STOPPED at the commit", 3, 3,
                "create 1 1 1 -> 0; move 0 0 1 -> 0; arm 5 -> true; step -> 3; step -> 2; step -> 1; step -> 0; step -> STOPPED",
                "slot 0 0 -> 4; slot 1 0 -> TORN; slot 2 0 -> 1; activate -> 3; moving -> 0; where 0 0 -> 0");
        s.run("step: STOPPED at the commit, but a quorum has it", 3, 3,
                "create 1 1 1 -> 0; move 0 0 1 -> 0; arm 6 -> true; step -> 3; step -> 2; step -> 1; step -> 0; step -> STOPPED",
                "activate -> 4; moving -> IDLE; where 0 0 -> 16");
    }

    private static void cancelled(Script s) {
        s.run("cancel", 3, 3,
                "create 1 1 1 -> 0; write 0 0 3 -> 1; move 0 0 1 -> 0; step -> 3; cancel -> 0; sequence -> 4; moving -> IDLE",
                "free 1 -> 3; where 0 0 -> 0; read 0 0 -> 3; write 0 0 4 -> 1; extend 0 1 -> 2; cancel -> IDLE");
        s.run("cancel: DOWN before IDLE before FEW", 3, 3,
                "create 1 1 1 -> 0; pull 1 -> true; pull 2 -> true; cancel -> IDLE; plug 1 -> true; move 0 0 1 -> 0; pull 0 -> true",
                "cancel -> FEW; moving -> 0; crash -> true; cancel -> DOWN");
        s.run("step, cancel: DOWN without a move too", 3, 3, "crash -> true; step -> DOWN; cancel -> DOWN; moving -> DOWN");
        s.run("cancel needs neither disk of the move", 5, 3,
                "create 1 1 1 -> 0; move 0 0 1 -> 0; pull 0 -> true; pull 1 -> true; cancel -> 0; moving -> IDLE");
        s.run("cancel: STOPPED", 2, 3,
                "create 1 1 1 -> 0; move 0 0 1 -> 0; step -> 3; arm 1 -> true; cancel -> STOPPED; activate -> 3; moving -> 0");
    }

    private static void told(Script s) {
        s.run("moving: volume, copied cells, extent number", 5, 10,
                "create 1 1 1 -> 0; create 1 1 1 -> 1; create 1 1 1 -> 2; create 1 2 12 -> 3; move 3 11 0 -> 0; moving -> 395",
                "step -> 3; moving -> 411; step -> 2; step -> 1; step -> 0; moving -> 459; where 3 11 -> 66");
    }
}
