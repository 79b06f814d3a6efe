/** Promise 9: round. */
public final class Promise09Test {
    private static final Due due = new Due("Promise09Test");

    /** "ROUNDS are numbered 0, 1, .. (20 at most)". */
    private static void upToTwenty() {
        ProvenRows x = new ProvenRows();
        for (int round = 0; round < 20; round++) {
            due.is("round()", x.round(), round);
            due.is("ROUNDS", x.count(2), round + 1);
        }
        due.is("a 21st", x.round(), Tape.FULL);
        due.is("and again", x.round(), Tape.FULL);
        due.is("ROUNDS", x.count(2), 20);
        due.is("status()", x.status(), 0);
    }

    /** "FULL: 20": nothing changes, the TABLES may be others by now. In Twins there are two ROUNDS. */
    private static void full() {
        Twins.refused(due, "a 21st", x -> {
            for (int round = 2; round < 20; round++) {
                x.round();
            }
            x.put(1, 1, 1);
        }, ProvenRows::round, Tape.FULL);
    }

    /** "the SEALS of all TABLES as they are now", of empty ones, too; what comes later is not in it. */
    private static void asTheyAreNow() {
        ProvenRows x = new ProvenRows();
        Tape.rows(x, 0, 1, 2);
        Tape.rows(x, 2, 3, 4, 5, 6);
        x.round();
        x.put(0, 1, 3);
        x.take(2, 3);
        x.take(2, 5);
        x.put(1, 7, 8);
        x.round();
        due.is("TABLE 0 in ROUND 0", x.seal(0, 0), new Leaves(1, 2).tableSeal());
        due.is("TABLE 1 in ROUND 0", x.seal(0, 1), new Leaves().tableSeal());
        due.is("TABLE 2 in ROUND 0", x.seal(0, 2), new Leaves(3, 4, 5, 6).tableSeal());
        due.is("TABLE 0 in ROUND 1", x.seal(1, 0), new Leaves(1, 3).tableSeal());
        due.is("TABLE 1 in ROUND 1", x.seal(1, 1), new Leaves(7, 8).tableSeal());
        due.is("TABLE 2 in ROUND 1", x.seal(1, 2), new Leaves().tableSeal());
    }

    public static void main(String[] args) {
        upToTwenty();
        full();
        asTheyAreNow();
        due.end();
    }
}
