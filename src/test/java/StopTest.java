/** Promises 12, arm, and 13, crash; and what the terms say of acts and of a stop. */
public final class StopTest {
    private static final String SOME = "create 1 4 1 -> 0; write 0 0 7 -> 1";

    public static void main(String[] args) {
        Script s = new Script();
        armed(s);
        armedWithAHundred(s);
        armRefused(s);
        crashed(s);
        atEachActOfACommit(s);
        atOtherActs(s);
        s.end();
    }

    private static void armed(Script s) {
        s.run("arm: the least k", 2, 3, SOME, "arm 0 -> true; write 0 0 1 -> STOPPED");
        s.run("in place of one that was armed: a later one", 2, 3, SOME,
                "arm 0 -> true; arm 1 -> true; write 0 0 1 -> 1; write 0 0 2 -> STOPPED");
        s.run("in place of one that was armed: an earlier one", 2, 3, SOME,
                "arm 100 -> true; arm 0 -> true; write 0 0 1 -> STOPPED");
        s.run("k acts since it was armed, not since the one before", 2, 3, SOME,
                "arm 2 -> true; write 0 0 1 -> 1; arm 2 -> true; write 0 0 2 -> 1; write 0 0 3 -> 1",
                "write 0 0 4 -> STOPPED; activate -> 2; read 0 0 -> 3");
        s.run("whatever state the group is in: down", 3, 3, SOME,
                "crash -> true; arm 0 -> true; activate -> 2; write 0 0 1 -> STOPPED; activate -> 2",
                "write 0 0 1 -> 1");
        s.run("whatever state the group is in: without a quorum", 3, 3, SOME,
                "pull 1 -> true; pull 2 -> true; arm 0 -> true; write 0 0 1 -> STOPPED");
        s.run("acts are counted, not calls", 2, 3, SOME,
                "arm 2 -> true; read 0 0 -> 7; create 9 9 9 -> BAD; step -> IDLE; rows 0 -> 1; free 0 -> 2",
                "slot 0 0 -> 1; where 0 0 -> 0; pull 1 -> true; plug 1 -> true; create 1 1 9 -> SPACE",
                "moving -> IDLE; sequence -> 2; write 0 0 1 -> 1; write 0 1 2 -> 1; write 0 2 3 -> STOPPED");
        s.run("acts are counted over calls of every kind", 3, 3, SOME,
                "arm 9 -> true; move 0 0 1 -> 0; step -> 3; write 0 0 1 -> 2; cancel -> 0; write 0 0 1 -> STOPPED",
                "activate -> 4");
        s.run("what is armed stays armed over a new start by itself", 3, 3, SOME,
                "crash -> true; arm 1 -> true; activate -> 2; write 0 0 1 -> 1; write 0 0 2 -> STOPPED");
    }

    private static void armedWithAHundred(Script s) {
        ExtentGroup group = s.run("arm: the greatest k", 2, 2, SOME, "arm 100 -> true");
        for (int i = 0; i < 100; i++) {
            s.due("write " + i + " of an armed hundred", group.write(0, 0, i), 1);
        }
        s.due("the write behind an armed hundred", group.write(0, 0, 100), ExtentGroup.STOPPED);
    }

    private static void armRefused(Script s) {
        String moving = SOME + "; move 0 0 1 -> 0; step -> 3";
        String wrong = "arm -1 -> false; arm 101 -> false; arm -2 -> false; arm MAX -> false; arm MIN -> false";
        s.refuses("false when k is not 0 .. 100; nothing is armed", 3, 3, moving, wrong);
        s.refuses("false when k is not 0 .. 100; what was armed stays", 3, 3,
                moving + "; arm 3 -> true; write 0 0 1 -> 2",
                wrong);
        s.refuses("false when k is not 0 .. 100; down", 3, 3, moving + "; crash -> true; arm 1 -> true", wrong);
    }

    private static void crashed(Script s) {
        s.run("crash: the group is DOWN: true", 2, 3, SOME,
                "crash -> true; sequence -> DOWN; rows 0 -> DOWN; activate -> 2; read 0 0 -> 7; crash -> true");
        s.run("crash: nothing is armed any more", 2, 3, SOME,
                "arm 0 -> true; crash -> true; activate -> 2; write 0 0 1 -> 1; extend 0 1 -> 2; write 0 0 2 -> 1");
        s.run("crash without a quorum", 2, 3, SOME,
                "pull 0 -> true; pull 1 -> true; crash -> true; sequence -> DOWN");
        s.run("crash writes nothing", 2, 3, SOME,
                "crash -> true; slot 0 0 -> 1; slot 0 1 -> 2; slot 0 2 -> 0; slot 1 2 -> 0");
        s.refuses("crash: false, changing nothing, when it is down already", 3, 3, SOME + "; crash -> true",
                "crash -> false");
        s.refuses("what was armed since stays armed", 3, 3, SOME + "; crash -> true; arm 1 -> true",
                "crash -> false");
        s.run("what was armed since stops a later act", 2, 3, SOME,
                "crash -> true; arm 0 -> true; crash -> false; activate -> 2; write 0 0 1 -> STOPPED");
        s.refuses("false when it is down by a stop", 3, 3, SOME + "; arm 0 -> true; write 0 0 1 -> STOPPED",
                "crash -> false");
    }

    /** Each call that commits makes three acts on three disks; a stop in place of each, and behind the last. */
    private static void atEachActOfACommit(Script s) {
        commitStopped(s, "create 1 4 1 -> 0", 2, "create 1 1 2", 1);
        commitStopped(s, "create 1 4 1 -> 0", 2, "extend 0 1", 2);
        commitStopped(s, "create 1 4 2 -> 0", 2, "reduce 0 1", 1);
        commitStopped(s, "create 1 4 1 -> 0", 2, "move 0 0 2", 0);
        String moving = "create 1 4 1 -> 0; move 0 0 1 -> 0; step -> 3; step -> 2; step -> 1; step -> 0";
        commitStopped(s, moving, 3, "step", 4);
        commitStopped(s, moving, 3, "cancel", 0);
    }

    /** The number is that of the present copy, which each disk then holds in the slot before number mod 3. */
    private static void commitStopped(Script s, String before, int number, String call, int answer) {
        int slot = number % 3;
        int held = slot == 0 ? 1 : 0;
        for (int k = 0; k < 3; k++) {
            String at = call + ", a stop at act " + k;
            ExtentGroup group = s.run(at, 3, 4, before, "arm " + k + " -> true", call + " -> STOPPED");
            s.go(at + ": the group is DOWN", group, "sequence -> DOWN; rows 0 -> DOWN; crash -> false");
            for (int d = 0; d < 3; d++) {
                int due = d < k ? number + 1 : d == k ? ExtentGroup.TORN : held;
                s.due(at + ": slot " + d + " " + slot, group.slot(d, slot), due);
                s.due(at + ": slot " + d + " " + (number - 1), group.slot(d, number - 1), number);
            }
            int chosen = k < 2 ? number : number + 1;
            s.go(at + ": a quorum has the old copy, or the new one", group, "activate -> " + chosen);
            s.go(at + ": nothing is armed any more", group, "write 0 0 1 -> 1; write 0 1 2 -> 1; write 0 2 3 -> 1");
        }
        s.run(call + ", a stop behind its last act", 3, 4, before,
                "arm 3 -> true",
                call + " -> " + answer,
                "write 0 3 1 -> STOPPED");
    }

    private static void atOtherActs(Script s) {
        s.run("any other act is not made: a cell that step copies", 2, 3, SOME,
                "move 0 0 1 -> 0; arm 0 -> true; step -> STOPPED; sequence -> DOWN; activate -> 3; cancel -> 0",
                "create 1 4 1 -> 1; where 1 0 -> 16; read 1 0 -> 0");
        s.run("any other act is not made: a cell that is written", 2, 3, SOME,
                "arm 0 -> true; write 0 0 9 -> STOPPED; sequence -> DOWN; activate -> 2; read 0 0 -> 7");
        s.run("any other act is not made: a slot that activate empties", 3, 3, SOME,
                "arm 1 -> true; extend 0 1 -> STOPPED; slot 0 2 -> 3; arm 0 -> true; activate -> STOPPED",
                "slot 0 2 -> 3; sequence -> DOWN; activate -> 2; slot 0 2 -> 0");
        s.run("an act that writes a copy leaves its slot torn: in activate too", 3, 3,
                "pull 2 -> true; create 1 1 1 -> 0; crash -> true; plug 2 -> true; arm 0 -> true",
                "activate -> STOPPED; slot 2 1 -> TORN; sequence -> DOWN");
        s.run("a torn slot was overwritten: what it held is lost", 3, 6,
                "create 1 1 1 -> 0; extend 0 1 -> 2; slot 0 0 -> 1; arm 0 -> true; extend 0 1 -> STOPPED",
                "slot 0 0 -> TORN; slot 1 0 -> 1");
        s.run("what was done before stays: cells that were copied", 2, 3, SOME,
                "move 0 0 1 -> 0; arm 1 -> true; step -> 3; step -> STOPPED; activate -> 3; moving -> 0",
                "cancel -> 0; create 1 4 1 -> 1; where 1 0 -> 16; read 1 0 -> 7");
        s.run("nothing is armed any more after any stop", 2, 3, SOME,
                "arm 0 -> true; write 0 0 9 -> STOPPED; activate -> 2; write 0 0 9 -> 1; extend 0 1 -> 2",
                "move 0 0 1 -> 0; step -> 3; write 0 0 1 -> 2");
    }
}
