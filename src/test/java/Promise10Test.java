/** Promise 10: seal. */
public final class Promise10Test {
    private static final Due due = new Due("Promise10Test");

    /** LINE "of ROUND 0", "of later ones": each hangs on the one ahead, up to the 20th. */
    private static void lines() {
        ProvenRows x = new ProvenRows();
        Tape.rows(x, 0, 1, 2);
        Tape.rows(x, 2, 3, 4, 5, 6);
        int first = x.told(0, 1);
        int last = x.told(2, 1);
        int[] second = new int[20];
        for (int round = 0; round < 20; round++) {
            x.put(1, round % 14, round);
            second[round] = x.told(1, 1);
            x.round();
        }
        int line = 0;
        for (int round = 0; round < 20; round++) {
            int own = Leaves.j(Leaves.j(first, second[round]), last);
            line = round == 0 ? own : Leaves.j(line, own);
            due.is("TABLE 0 in ROUND " + round, x.seal(round, 0), first);
            due.is("TABLE 1 in ROUND " + round, x.seal(round, 1), second[round]);
            due.is("TABLE 2 in ROUND " + round, x.seal(round, 2), last);
            due.is("LINE of ROUND " + round, x.seal(round, 3), line);
        }
    }

    /** Empty TABLES alone: the LINES go on, though nothing changes. */
    private static void linesOfNothing() {
        ProvenRows x = new ProvenRows();
        int empty = new Leaves().tableSeal();
        int own = Leaves.j(Leaves.j(empty, empty), empty);
        x.round();
        x.round();
        due.is("LINE of ROUND 0", x.seal(0, 3), own);
        due.is("LINE of ROUND 1", x.seal(1, 3), Leaves.j(own, own));
    }

    /** A ROUND stays as it was, whatever comes. */
    private static void staysAsItWas() {
        ProvenRows x = Three.planned("range 0 0 999;");
        int[] was = {x.seal(0, 0), x.seal(0, 1), x.seal(0, 2), x.seal(0, 3)};
        x.put(0, 10, 6);
        x.take(1, 20);
        x.put(2, 0, 0);
        x.round();
        due.are("ROUND 0", what -> what < 4 ? x.seal(0, what) : Tape.NONE, was);
    }

    /** "BAD": a ROUND that there is not (none, one too far, the 21st), a TABLE that there is not. */
    private static void bad() {
        due.is("none at all", new ProvenRows().seal(0, 3), Tape.BAD);
        for (int round : Tape.outside(2)) {
            Twins.refused(due, "seal(" + round + ", 0)", x -> x.seal(round, 0), Tape.BAD);
            Twins.refused(due, "seal(" + round + ", 3)", x -> x.seal(round, 3), Tape.BAD);
        }
        for (int what : Tape.outside(4)) {
            Twins.refused(due, "seal(0, " + what + ")", x -> x.seal(0, what), Tape.BAD);
            Twins.refused(due, "seal(1, " + what + ")", x -> x.seal(1, what), Tape.BAD);
        }
        ProvenRows x = new ProvenRows();
        for (int round = 0; round < 20; round++) {
            due.is("not yet", x.seal(round, 0), Tape.BAD);
            x.round();
        }
        for (int round : Tape.outside(20)) {
            due.is("all are there: seal(" + round + ", 0)", x.seal(round, 0), Tape.BAD);
        }
    }

    public static void main(String[] args) {
        lines();
        linesOfNothing();
        staysAsItWas();
        bad();
        due.end();
    }
}
