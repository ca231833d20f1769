/** Promise 7, cancel. */
public final class CancelTest {
    private static final String BEGUN = "create 1 1 1 -> 0; write 0 0 3 -> 1; move 0 0 1 -> 0; step -> 3";

    public static void main(String[] args) {
        Script s = new Script();
        cancelled(s);
        refused(s);
        s.end();
    }

    private static void cancelled(Script s) {
        s.run("the move is given up", 3, 3, BEGUN,
                "cancel -> 0; moving -> IDLE; free 1 -> 3; free 0 -> 2; where 0 0 -> 0; read 0 0 -> 3",
                "write 0 0 4 -> 1; extend 0 1 -> 2");
        s.run("a map without it is committed", 3, 3, BEGUN,
                "cancel -> 0; sequence -> 4; slot 0 0 -> 4; slot 1 0 -> 4; slot 2 0 -> 4; crash -> true",
                "activate -> 4; moving -> IDLE");
        s.run("with no cell copied", 3, 3, "create 1 1 1 -> 0; move 0 0 1 -> 0; cancel -> 0; moving -> IDLE");
        s.run("with all cells copied", 3, 3, BEGUN,
                "step -> 2; step -> 1; step -> 0; cancel -> 0; moving -> IDLE; where 0 0 -> 0");
        s.run("neither disk of the move needs to be present", 5, 3, BEGUN,
                "pull 0 -> true; pull 1 -> true; cancel -> 0; moving -> IDLE");
        s.run("STOPPED", 2, 3, BEGUN, "arm 1 -> true; cancel -> STOPPED; moving -> DOWN; activate -> 3; moving -> 0");
        s.run("STOPPED, but a quorum has it", 3, 3, BEGUN,
                "arm 2 -> true; cancel -> STOPPED; activate -> 4; moving -> IDLE");
    }

    private static void refused(Script s) {
        s.refuses("DOWN", 3, 3, BEGUN + "; arm 1 -> true; crash -> true", "cancel -> DOWN");
        s.refuses("IDLE when there is no move", 3, 3, "create 1 1 1 -> 0; arm 0 -> true", "cancel -> IDLE");
        s.refuses("IDLE when it was given up", 3, 3, BEGUN + "; cancel -> 0", "cancel -> IDLE");
        s.refuses("IDLE when it is done", 3, 3, BEGUN + "; step -> 2; step -> 1; step -> 0; step -> 4",
                "cancel -> IDLE");
        s.refuses("FEW", 3, 3, BEGUN + "; arm 0 -> true; pull 1 -> true; pull 2 -> true", "cancel -> FEW");
        s.run("DOWN, IDLE, FEW, STOPPED", 3, 3,
                "create 1 1 1 -> 0; pull 1 -> true; pull 2 -> true; cancel -> IDLE; crash -> true; cancel -> DOWN",
                "plug 1 -> true; activate -> 2; move 0 0 1 -> 0; arm 0 -> true; pull 0 -> true; cancel -> FEW",
                "crash -> true; cancel -> DOWN");
    }
}
