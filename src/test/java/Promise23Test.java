/** Promise 23: as. */
public final class Promise23Test {
    private static final Due due = new Due("Promise23Test");
    /** ACTS of TABLES a 1, 2, 0, 1, 2, 0, 1; b is another. */
    private static final String PLAN =
        "range 1 0 0;sum 2 0 0;first 0 0 1;probe 1 0;join 2 0 0 0;merge 0 1 0 0;not 1 2 0 0;";
    private static final int[] TABLES_A = {1, 2, 0, 1, 2, 0, 1};
    /** Of each ACT the KINDS that it is. */
    private static final String[] IS = {"01", "012", "013", "014", "05", "05", "056"};

    /** "An ACT is taken as one of a KIND (0 .. 6): its TABLE a"; "KIND: it is no such one". */
    private static void eachAsEach() {
        for (int act = 0; act < 7; act++) {
            for (int kind = 0; kind < 7; kind++) {
                ProvenRows x = new ProvenRows();
                Tape.plan(x, PLAN);
                boolean is = IS[act].indexOf('0' + kind) >= 0;
                due.is("as(" + act + ", " + kind + ")", x.as(act, kind), is ? TABLES_A[act] : Tape.KIND);
                due.is("status()", x.status(), is ? 0 : 3);
            }
        }
    }

    /** A KIND is no KIND beside it, and none below it: nothing changes. In Twins ACT 0 is a RANGE, 1 an ADD, 4 a PAIR, 6 a NOT. */
    private static void noSuchOne() {
        int[][] pairs = {{0, 2}, {0, 3}, {0, 4}, {0, 5}, {0, 6}, {1, 3}, {1, 4}, {1, 5}, {4, 6}, {4, 1}, {6, 1}, {6, 4}};
        for (int[] pair : pairs) {
            Twins.refused(due, "as(" + pair[0] + ", " + pair[1] + ")", x -> x.as(pair[0], pair[1]), Tape.KIND);
        }
    }

    /** "BAD": ACT, KIND; ahead of what would be found. */
    private static void bad() {
        due.is("no ACT at all", new ProvenRows().as(0, 0), Tape.BAD);
        for (int act : Tape.outside(8)) {
            Twins.refused(due, "as(" + act + ", 0)", x -> x.as(act, 0), Tape.BAD);
            Twins.refused(due, "as(" + act + ", 6)", x -> x.as(act, 6), Tape.BAD);
        }
        for (int kind : Tape.outside(7)) {
            Twins.refused(due, "as(0, " + kind + ")", x -> x.as(0, kind), Tape.BAD);
        }
    }

    /** Taken as one of another KIND it stays what it is. */
    private static void staysWhatItIs() {
        ProvenRows x = new ProvenRows();
        Tape.plan(x, PLAN);
        x.as(1, 0);
        x.as(1, 1);
        due.is("kind(1)", x.kind(1), 2);
        due.is("as(1, 2)", x.as(1, 2), 2);
        due.is("as(1, 3)", x.as(1, 3), Tape.KIND);
    }

    public static void main(String[] args) {
        eachAsEach();
        noSuchOne();
        bad();
        staysWhatItIs();
        due.end();
    }
}
