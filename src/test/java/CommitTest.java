/** What the terms say of copies and of committing a map. */
public final class CommitTest {
    public static void main(String[] args) {
        Script s = new Script();
        numbered(s);
        behindThePresentCopy(s);
        toTheNextSlot(s);
        done(s);
        s.end();
    }

    private static void numbered(Script s) {
        s.run("the present copy's number and 1 more", 3, 6,
                "create 1 1 1 -> 0; sequence -> 2; slot 0 1 -> 2; extend 0 1 -> 2; sequence -> 3; slot 0 2 -> 3");
        s.run("the present copy's, not the greatest that a slot holds", 3, 6,
                "create 1 1 1 -> 0; arm 1 -> true; extend 0 1 -> STOPPED; pull 0 -> true; activate -> 2",
                "slot 0 2 -> 3; extend 0 1 -> 2; sequence -> 3; slot 1 2 -> 3");
        s.run("a stamp that is 1 more than the greatest given so far, also for a number that was given before", 3, 6,
                "create 1 1 1 -> 0; arm 1 -> true; extend 0 1 -> STOPPED; pull 0 -> true; activate -> 2",
                "extend 0 3 -> 4; crash -> true; pull 2 -> true; plug 0 -> true; slot 0 2 -> 3; slot 1 2 -> 3",
                "activate -> 2; rows 0 -> 1; slot 0 2 -> 0; slot 1 2 -> 0");
        s.run("stamps grow over a new start", 3, 6,
                "arm 1 -> true; create 1 1 1 -> STOPPED; slot 0 1 -> 2; pull 0 -> true; activate -> 1",
                "arm 1 -> true; create 1 1 2 -> STOPPED; slot 1 1 -> 2; slot 2 1 -> TORN; plug 0 -> true",
                "activate -> 1; slot 0 1 -> 0; slot 1 1 -> 0; slot 2 1 -> TORN");
    }

    private static void behindThePresentCopy(Script s) {
        s.run("to the one behind that which holds the present copy", 2, 6,
                "create 1 1 1 -> 0; slot 0 1 -> 2; slot 1 1 -> 2; extend 0 1 -> 2; slot 0 2 -> 3; slot 1 2 -> 3");
        s.run("0 is behind 2", 2, 6,
                "create 1 1 1 -> 0; extend 0 1 -> 2; extend 0 1 -> 3; slot 0 0 -> 4; slot 1 0 -> 4; slot 0 1 -> 2",
                "slot 0 2 -> 3; extend 0 1 -> 4; slot 0 1 -> 5; slot 0 2 -> 3; slot 0 0 -> 4");
        s.run("behind it although the number of acts says otherwise", 3, 6,
                "create 1 1 1 -> 0; arm 0 -> true; extend 0 1 -> STOPPED; slot 0 2 -> TORN; activate -> 2",
                "extend 0 1 -> 2; slot 0 2 -> 3; slot 0 0 -> 1; extend 0 1 -> 3; slot 0 0 -> 4");
        s.run("behind that which activate wrote", 3, 6,
                "pull 2 -> true; create 1 1 1 -> 0; crash -> true; arm 0 -> true; plug 2 -> true",
                "activate -> STOPPED; activate -> 2; slot 2 1 -> TORN; slot 2 2 -> 2; extend 0 1 -> 2",
                "slot 2 0 -> 3; slot 0 2 -> 3");
        s.run("a copy with the same number and another stamp is not the present one", 3, 6,
                "create 1 1 1 -> 0; arm 1 -> true; extend 0 1 -> STOPPED; pull 0 -> true; activate -> 2",
                "extend 0 3 -> 4; plug 0 -> true; slot 0 2 -> 3; sequence -> 3; extend 0 1 -> 5; slot 0 0 -> 4",
                "slot 0 1 -> 2; slot 0 2 -> 3; slot 1 0 -> 4");
        s.run("for each present disk; none to one that is away", 3, 6,
                "pull 1 -> true; create 1 1 1 -> 0; slot 0 1 -> 2; slot 1 1 -> 0; slot 2 1 -> 2");
        s.run("in the order of their numbers", 4, 6,
                "pull 1 -> true; arm 1 -> true; create 1 1 1 -> STOPPED; slot 0 1 -> 2; slot 1 1 -> 0",
                "slot 2 1 -> TORN; slot 3 1 -> 0");
    }

    private static void toTheNextSlot(Script s) {
        s.run("the next one is slot n mod 3: n = 1, the first copy of all", 3, 6,
                "pull 2 -> true; create 1 1 1 -> 0; plug 2 -> true; extend 0 1 -> 2; slot 2 0 -> 1; slot 2 1 -> 3",
                "slot 2 2 -> 0; slot 0 2 -> 3");
        s.run("the next one is slot n mod 3: n = 2", 3, 6,
                "create 1 1 1 -> 0; pull 2 -> true; extend 0 1 -> 2; plug 2 -> true; extend 0 1 -> 3; slot 2 0 -> 1",
                "slot 2 1 -> 2; slot 2 2 -> 4; slot 0 0 -> 4");
        s.run("the next one is slot n mod 3: n = 3, slot 0", 3, 6,
                "create 1 1 1 -> 0; extend 0 1 -> 2; pull 2 -> true; extend 0 1 -> 3; plug 2 -> true",
                "extend 0 1 -> 4; slot 2 0 -> 5; slot 2 1 -> 2; slot 2 2 -> 3; slot 0 1 -> 5");
        s.run("the next one is slot n mod 3: n = 4, slot 1", 3, 6,
                "create 1 1 1 -> 0; extend 0 1 -> 2; extend 0 1 -> 3; pull 2 -> true; extend 0 1 -> 4",
                "plug 2 -> true; extend 0 1 -> 5; slot 2 0 -> 4; slot 2 1 -> 6; slot 2 2 -> 3");
        s.run("torn ones included", 3, 6,
                "create 1 1 1 -> 0; arm 0 -> true; extend 0 1 -> STOPPED; activate -> 2; pull 0 -> true",
                "extend 0 1 -> 2; plug 0 -> true; extend 0 1 -> 3; slot 0 0 -> 4; slot 0 1 -> 2; slot 0 2 -> TORN");
        s.run("those that activate wrote included", 3, 6,
                "pull 2 -> true; create 1 1 1 -> 0; crash -> true; plug 2 -> true; activate -> 2; pull 2 -> true",
                "extend 0 1 -> 2; plug 2 -> true; extend 0 1 -> 3; slot 2 0 -> 1; slot 2 1 -> 2; slot 2 2 -> 4");
        s.run("acts that make a slot empty not included", 3, 6,
                "create 1 1 1 -> 0; arm 1 -> true; extend 0 1 -> STOPPED; activate -> 2; slot 0 2 -> 0",
                "pull 0 -> true; extend 0 1 -> 2; plug 0 -> true; extend 0 1 -> 3; slot 0 0 -> 4; slot 0 1 -> 2",
                "slot 0 2 -> 0");
        s.run("acts that write cells not included", 3, 6,
                "create 1 1 1 -> 0; write 0 0 1 -> 1; write 0 1 1 -> 1; pull 0 -> true; create 1 1 1 -> 1",
                "plug 0 -> true; create 1 1 1 -> 2; slot 0 2 -> 4; slot 0 0 -> 1");
        s.run("the number of acts, wherever on the disk they wrote", 3, 6,
                "create 1 1 1 -> 0; arm 0 -> true; extend 0 1 -> STOPPED; activate -> 2; extend 0 1 -> 2",
                "slot 0 2 -> 3; pull 0 -> true; extend 0 1 -> 3; plug 0 -> true; extend 0 1 -> 4; slot 0 0 -> 1",
                "slot 0 1 -> 5; slot 0 2 -> 3");
        s.run("acts on other disks not included", 3, 6,
                "pull 0 -> true; create 1 1 1 -> 0; extend 0 1 -> 2; extend 0 1 -> 3; extend 0 1 -> 4",
                "plug 0 -> true; extend 0 1 -> 5; slot 0 0 -> 1; slot 0 1 -> 6; slot 0 2 -> 0");
    }

    private static void done(Script s) {
        s.run("when all were made, this copy is the present one", 3, 6,
                "arm 3 -> true; create 1 1 1 -> 0; sequence -> 2; rows 0 -> 1");
        s.run("not before: a stop in place of the last leaves it to the quorum", 2, 6,
                "arm 1 -> true; create 1 1 1 -> STOPPED; slot 0 1 -> 2; slot 1 1 -> TORN; activate -> 1",
                "slot 0 1 -> 0; rows 0 -> BAD; create 1 1 1 -> 0; slot 0 1 -> 2; slot 1 1 -> 2");
        String moving = "create 1 1 1 -> 0; create 1 1 1 -> 1; move 0 0 2 -> 0; step -> 3; step -> 2";
        s.run("a move in common with the map before goes on as it was: create", 3, 6, moving,
                "create 1 1 1 -> 2; moving -> 32; write 0 0 1 -> 2; step -> 1");
        s.run("a move in common with the map before goes on as it was: extend", 3, 6, moving,
                "extend 1 1 -> 2; moving -> 32; write 0 1 1 -> 2; step -> 1");
        s.run("a move in common with the map before goes on as it was: reduce", 3, 6, moving,
                "reduce 1 1 -> 0; moving -> 32; write 0 2 1 -> 1; step -> 1");
        s.run("the same move begun anew is another one", 3, 6, moving,
                "cancel -> 0; move 0 0 2 -> 0; moving -> 0; write 0 0 1 -> 1; step -> 3");
    }
}
