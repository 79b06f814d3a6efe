/** Promise 22: kind. */
public final class Promise22Test {
    private static final Due due = new Due("Promise22Test");
    private static final String[] ACTS = {
        "range 0 0 0;", "sum 0 0 0;", "first 0 0 1;", "probe 0 0;", "join 0 0 0 0;", "merge 0 0 0 0;", "not 0 0 0 0;"};
    private static final int[] KINDS = {1, 2, 3, 4, 5, 5, 6};

    /** "It is told by its word": each word, alone and behind all others. */
    private static void byItsWord() {
        ProvenRows all = new ProvenRows();
        for (int word = 0; word < 7; word++) {
            ProvenRows x = new ProvenRows();
            Tape.plan(x, ACTS[word]);
            due.is(ACTS[word], x.kind(0), KINDS[word]);
            Tape.plan(all, ACTS[word]);
        }
        for (int act = 0; act < 7; act++) {
            due.is("ACT " + act, all.kind(act), KINDS[act]);
        }
    }

    /** The first and the last of twelve. */
    private static void twelve() {
        ProvenRows x = new ProvenRows();
        Tape.plan(x, "not 0 0 0 0;" + "sum 0 0 0;".repeat(10) + "first 0 0 1;");
        due.is("ACT 0", x.kind(0), 6);
        due.is("ACT 1", x.kind(1), 2);
        due.is("ACT 11", x.kind(11), 3);
        for (int act : Tape.outside(12)) {
            due.is("kind(" + act + ")", x.kind(act), Tape.BAD);
        }
    }

    /** "BAD": no such ACT. In Twins there are eight. */
    private static void bad() {
        due.is("no ACT at all", new ProvenRows().kind(0), Tape.BAD);
        for (int act : Tape.outside(8)) {
            Twins.refused(due, "kind(" + act + ")", x -> x.kind(act), Tape.BAD);
        }
        ProvenRows x = new ProvenRows();
        Tape.plan(x, "sum 0 0 0;sum 3 0 0;");
        due.is("one that came ahead of a FAULT", x.kind(0), Tape.BAD);
        Tape.feed(x, "sum 0 0 0;");
        due.is("one that is not read yet", x.kind(0), Tape.BAD);
    }

    public static void main(String[] args) {
        byItsWord();
        twelve();
        bad();
        due.end();
    }
}
