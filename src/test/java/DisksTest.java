/** Promises 10 pull, 11 plug, 12 arm, 13 crash. */
public final class DisksTest {
    public static void main(String[] args) {
        Script s = new Script();
        s.run("pull and plug", 3, 3,
                "plug 1 -> false; pull 1 -> true; pull 1 -> false; plug 1 -> true; plug 1 -> false; pull 1 -> true",
                "pull -1 -> false; pull 3 -> false; pull MAX -> false; pull MIN -> false; plug -1 -> false; plug 3 -> false",
                "plug MAX -> false; plug MIN -> false");
        s.run("pull and plug while the group is down", 3, 3,
                "crash -> true; pull 0 -> true; pull 0 -> false; pull 1 -> true; activate -> FEW; plug 0 -> true; plug 0 -> false; activate -> 1");
        s.run("every disk may go; the group stays up", 2, 3,
                "create 1 1 1 -> 0; pull 0 -> true; pull 1 -> true; sequence -> 2; rows 0 -> 1; slot 0 1 -> 2; plug 0 -> true; plug 1 -> true",
                "extend 0 1 -> 2; slot 0 2 -> 3; slot 1 2 -> 3");
        s.run("a disk comes back as it was", 3, 3,
                "create 1 1 1 -> 0; write 0 0 5 -> 1; pull 0 -> true; create 1 1 1 -> 1; slot 0 1 -> 2; slot 0 2 -> 0; slot 1 2 -> 3",
                "plug 0 -> true; slot 0 2 -> 0; read 0 0 -> 5");
        s.run("arm", 2, 3,
                "arm -1 -> false; arm 101 -> false; arm MAX -> false; arm MIN -> false; create 1 1 1 -> 0; arm 100 -> true; arm 0 -> true",
                "arm -1 -> false; arm 101 -> false; write 0 0 1 -> STOPPED; sequence -> DOWN");
        s.run("arm counts acts, not calls", 2, 3,
                "create 1 1 1 -> 0; arm 2 -> true; read 0 0 -> 0; create 9 9 9 -> BAD; step -> IDLE; write 0 0 1 -> 1; read 0 0 -> 1",
                "write 0 1 2 -> 1; sequence -> 2; write 0 2 3 -> STOPPED; activate -> 2; write 0 2 3 -> 1; read 0 0 -> 1; read 0 1 -> 2");
        s.run("a new arm counts from anew", 2, 3,
                "create 1 1 1 -> 0; arm 1 -> true; write 0 0 1 -> 1; arm 1 -> true; write 0 0 2 -> 1; arm 3 -> true; write 0 0 3 -> 1",
                "write 0 0 4 -> 1; write 0 0 5 -> 1; write 0 0 6 -> STOPPED; activate -> 2; read 0 0 -> 5");
        s.run("armed while the group is down", 3, 3,
                "create 1 1 1 -> 0; crash -> true; arm 0 -> true; crash -> false; activate -> 2; write 0 0 1 -> STOPPED; activate -> 2",
                "write 0 0 1 -> 1");
        s.run("crash", 2, 3,
                "create 1 1 1 -> 0; arm 0 -> true; crash -> true; crash -> false; sequence -> DOWN; activate -> 2; write 0 0 1 -> 1",
                "crash -> true; activate -> 2; read 0 0 -> 1");
        armedWithAHundred(s);
        s.end();
    }

    private static void armedWithAHundred(Script s) {
        ExtentGroup group = new ExtentGroup(2, 2);
        group.create(1, 1, 1);
        s.due("arm(100)", group.arm(100) ? 1 : 0, 1);
        for (int i = 0; i < 100; i++) {
            s.due("write " + i + " of an armed hundred", group.write(0, 0, i), 1);
        }
        s.due("the write behind an armed hundred", group.write(0, 0, 100), ExtentGroup.STOPPED);
    }
}
