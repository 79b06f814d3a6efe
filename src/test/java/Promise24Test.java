/** Promise 24: ask. */
public final class Promise24Test {
    private static final Due due = new Due("Promise24Test");
    private static final String PLAN =
        "range 0 0 999;sum 0 0 999;first 0 0 2;probe 1 5;join 0 1 0 999;merge 0 1 0 999;not 0 1 0 999;range 2 1 1;";

    /** TABLE 0 has three ROWS, TABLE 1 two, TABLE 2 none. */
    private static ProvenRows planned() {
        ProvenRows x = new ProvenRows();
        Tape.rows(x, 0, 10, 5, 20, 6, 30, 7);
        Tape.rows(x, 1, 20, 60, 25, 1);
        Tape.plan(x, PLAN);
        return x;
    }

    private static void asked(ProvenRows x, int act, int what, int want, int... trace) {
        due.is("ask(" + act + ", " + what + ")", x.ask(act, what), want);
        due.are("trace of ask(" + act + ", " + what + ")", x::trace, trace);
    }

    /** SIZE, BODIES 10 to 14: "the BODY told for the KIND begins, else that of the nearest KIND that it is, too". */
    private static void size() {
        ProvenRows x = planned();
        int[] words = new int[8];
        for (int act = 0; act < 8; act++) {
            words[act] = x.proof(act, -1);
        }
        asked(x, 0, 0, words[0] + 0 + 3, 11, 10, 21, 20);
        asked(x, 1, 0, 2 * (words[1] + 1 + 3), 12, 11, 10, 21, 20);
        asked(x, 2, 0, words[2] + 2 + 3, 11, 10, 21, 20);
        asked(x, 3, 0, words[3] + 2 * (3 + 2), 11, 10, 22, 21, 20);
        asked(x, 4, 0, words[4] + 2, 13, 10);
        asked(x, 5, 0, words[5] + 2, 13, 10);
        asked(x, 6, 0, words[6] + 2 - 106, 14, 13, 10, 23, 20);
        asked(x, 7, 0, 8 + 7 + 0, 11, 10, 21, 20);
    }

    /** MARK, BODIES 20 to 23. */
    private static void mark() {
        ProvenRows x = planned();
        asked(x, 0, 1, 0 + 3, 21, 20);
        asked(x, 1, 1, 1 + 3, 21, 20);
        asked(x, 2, 1, 2 + 3, 21, 20);
        asked(x, 3, 1, 2 * (3 + 2), 22, 21, 20);
        asked(x, 4, 1, 104, 23, 20);
        asked(x, 5, 1, 105, 23, 20);
        asked(x, 6, 1, 106, 23, 20);
        asked(x, 7, 1, 7, 21, 20);
    }

    /** Nothing in the TABLES: the least that there is, below 0 for a NOT. */
    private static void emptyTables() {
        ProvenRows x = new ProvenRows();
        Tape.plan(x, PLAN);
        asked(x, 0, 0, 8, 11, 10, 21, 20);
        asked(x, 1, 0, 2 * (8 + 1), 12, 11, 10, 21, 20);
        asked(x, 3, 0, 8 + 2 * 3, 11, 10, 22, 21, 20);
        asked(x, 4, 0, 8, 13, 10);
        asked(x, 5, 0, 16, 13, 10);
        asked(x, 6, 0, 8 - 106, 14, 13, 10, 23, 20);
        asked(x, 0, 1, 0, 21, 20);
    }

    /** Full TABLES, and the last of twelve ACTS. */
    private static void fullTables() {
        ProvenRows x = new ProvenRows();
        for (int i = 0; i < 14; i++) {
            x.put(0, i, i);
            x.put(1, 500 + i, i);
        }
        Tape.plan(x, "probe 0 0;".repeat(9) + "merge 0 1 0 999;not 0 1 0 999;sum 0 0 999;");
        asked(x, 11, 0, 2 * (32 + 11 + 14), 12, 11, 10, 21, 20);
        asked(x, 11, 1, 25, 21, 20);
        asked(x, 9, 0, 64 + 64 + 14 - 0, 13, 10);
        asked(x, 10, 0, x.proof(10, -1) + 14 - 110, 14, 13, 10, 23, 20);
        asked(x, 8, 1, 2 * (8 + 14), 22, 21, 20);
    }

    /** "WORDS as TABLES are now", how many ROWS they have, too. */
    private static void asTablesAreNow() {
        ProvenRows x = planned();
        x.put(0, 40, 8);
        x.put(1, 41, 9);
        x.put(1, 42, 9);
        asked(x, 0, 0, x.proof(0, -1) + 4, 11, 10, 21, 20);
        asked(x, 4, 0, x.proof(4, -1) + 4, 13, 10);
        asked(x, 3, 1, 2 * (3 + 4), 22, 21, 20);
        x.take(0, 10);
        x.take(0, 20);
        asked(x, 0, 1, 2, 21, 20);
    }

    /** "THE TRACE is empty ahead of it": a shorter one leaves nothing of a longer one. */
    private static void traceIsEmptyAhead() {
        ProvenRows x = planned();
        asked(x, 1, 1, 4, 21, 20);
        asked(x, 1, 0, x.proof(1, -1) * 2 + 8, 12, 11, 10, 21, 20);
        asked(x, 4, 1, 104, 23, 20);
    }

    /** "An ASK (0, 1) of an ACT. BAD": THE TRACE stays. In Twins it has five numbers. */
    private static void bad() {
        due.is("no ACT at all", new ProvenRows().ask(0, 0), Tape.BAD);
        for (int act : Tape.outside(8)) {
            Twins.refused(due, "ask(" + act + ", 0)", x -> x.ask(act, 0), Tape.BAD);
            Twins.refused(due, "ask(" + act + ", 1)", x -> x.ask(act, 1), Tape.BAD);
        }
        for (int what : Tape.outside(2)) {
            Twins.refused(due, "ask(0, " + what + ")", x -> x.ask(0, what), Tape.BAD);
        }
    }

    public static void main(String[] args) {
        size();
        mark();
        emptyTables();
        fullTables();
        asTablesAreNow();
        traceIsEmptyAhead();
        bad();
        due.end();
    }
}
