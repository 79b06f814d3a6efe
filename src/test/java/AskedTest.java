/** Promises 22 to 27: kind, as, ask, trace, count, status. */
public final class AskedTest {
    private static final Due due = new Due("AskedTest");
    private static final String PLAN =
        "range 0 0 999;sum 0 0 999;first 0 0 2;probe 1 5;join 0 1 0 999;merge 0 1 0 999;not 0 1 0 999;range 2 1 1;";
    /** Of ACTS 0 to 7 as PLAN has them. */
    private static final int[] KINDS = {1, 2, 3, 4, 5, 5, 6, 1};
    private static final int[] TABLES_A = {0, 0, 0, 1, 0, 0, 0, 2};
    /** Of each KIND those that it is. */
    private static final int[][] IS = {{0}, {0, 1}, {0, 1, 2}, {0, 1, 3}, {0, 1, 4}, {0, 5}, {0, 5, 6}};

    private static ProvenRows planned() {
        ProvenRows x = new ProvenRows();
        Tape.rows(x, 0, 10, 5, 20, 6, 30, 7);
        Tape.rows(x, 1, 20, 60, 25, 1);
        Tape.plan(x, PLAN);
        return x;
    }

    private static void kinds() {
        ProvenRows x = planned();
        for (int act = 0; act < KINDS.length; act++) {
            due.is("kind(" + act + ")", x.kind(act), KINDS[act]);
            for (int kind = 0; kind < 7; kind++) {
                boolean is = false;
                for (int each : IS[KINDS[act]]) {
                    is |= each == kind;
                }
                due.is("as(" + act + ", " + kind + ")", x.as(act, kind), is ? TABLES_A[act] : Tape.KIND);
                due.is("status()", x.status(), is ? 0 : 3);
            }
        }
        due.is("kind(8)", x.kind(8), Tape.BAD);
        due.is("kind(-1)", x.kind(-1), Tape.BAD);
        due.is("as(1, 3)", x.as(1, 3), Tape.KIND);
        due.is("as(8, 0)", x.as(8, 0), Tape.BAD);
        due.is("as(-1, 0)", x.as(-1, 0), Tape.BAD);
        due.is("as(0, 7)", x.as(0, 7), Tape.BAD);
        due.is("as(0, -1)", x.as(0, -1), Tape.BAD);
        due.is("status() after BAD", x.status(), 3);
    }

    private static void asked(ProvenRows x, int act, int what, int want, int... trace) {
        due.is("ask(" + act + ", " + what + ")", x.ask(act, what), want);
        due.are("trace of ask(" + act + ", " + what + ")", x::trace, trace);
    }

    private static void asks() {
        ProvenRows x = planned();
        int[] words = new int[8];
        for (int act = 0; act < 8; act++) {
            words[act] = x.proof(act, -1);
        }
        asked(x, 0, 0, words[0] + 0 + 3, 11, 10, 21, 20);
        asked(x, 1, 0, 2 * (words[1] + 1 + 3), 12, 11, 10, 21, 20);
        asked(x, 2, 0, words[2] + 2 + 3, 11, 10, 21, 20);
        asked(x, 3, 0, words[3] + 2 * (3 + 2), 11, 10, 22, 21, 20);
        asked(x, 4, 0, words[4] + 2, 13, 10);
        asked(x, 5, 0, words[5] + 2, 13, 10);
        asked(x, 6, 0, words[6] + 2 - 106, 14, 13, 10, 23, 20);
        asked(x, 7, 0, 8 + 7 + 0, 11, 10, 21, 20);
        asked(x, 0, 1, 0 + 3, 21, 20);
        asked(x, 1, 1, 1 + 3, 21, 20);
        asked(x, 2, 1, 2 + 3, 21, 20);
        asked(x, 3, 1, 2 * (3 + 2), 22, 21, 20);
        asked(x, 4, 1, 104, 23, 20);
        asked(x, 5, 1, 105, 23, 20);
        asked(x, 6, 1, 106, 23, 20);
        asked(x, 7, 1, 7, 21, 20);
        x.put(0, 40, 8);
        x.put(1, 41, 9);
        x.put(1, 42, 9);
        asked(x, 0, 0, x.proof(0, -1) + 4, 11, 10, 21, 20);
        asked(x, 4, 0, x.proof(4, -1) + 4, 13, 10);
        asked(x, 3, 1, 2 * (3 + 4), 22, 21, 20);
    }

    private static void trace() {
        ProvenRows x = planned();
        due.is("before an ask", x.trace(0), Tape.NONE);
        x.ask(4, 1);
        due.is("act 8", x.ask(8, 0), Tape.BAD);
        due.is("act -1", x.ask(-1, 0), Tape.BAD);
        due.is("what 2", x.ask(0, 2), Tape.BAD);
        due.is("what -1", x.ask(0, -1), Tape.BAD);
        due.are("what was BAD left it", x::trace, 23, 20);
        due.is("trace(-1)", x.trace(-1), Tape.NONE);
        due.is("trace(16)", x.trace(16), Tape.NONE);
        due.is("trace least", x.trace(Integer.MIN_VALUE), Tape.NONE);
        due.is("trace most", x.trace(Integer.MAX_VALUE), Tape.NONE);
    }

    private static void counts() {
        ProvenRows x = planned();
        x.sheet(0, 0, 0);
        x.sheet(7, 1, 5);
        x.round();
        x.put(2, 1, 1);
        Tape.feed(x, "probe");
        int[] want = {2, 6, 1, 8, 5, 5};
        for (int what = 0; what < want.length; what++) {
            due.is("count(" + what + ")", x.count(what), want[what]);
        }
        due.is("count(-1)", x.count(-1), Tape.BAD);
        due.is("count(6)", x.count(6), Tape.BAD);
        x.drop(0);
        x.take(0, 10);
        x.plan();
        due.is("one SHEET less", x.count(0), 1);
        due.is("one ROW less", x.count(1), 5);
        due.is("no byte", x.count(5), 0);
        due.is("no ACT more", x.count(3), 8);
    }

    private static void status() {
        ProvenRows x = planned();
        due.is("before a call with a SHEET", x.status(), 0);
        x.set(0, 0, 0);
        due.is("NULL", x.status(), 1);
        x.put(9, 0, 0);
        x.take(0, 999);
        x.round();
        x.kind(0);
        x.ask(0, 0);
        x.proof(0, 0);
        x.answer(0, 0);
        x.forged(0, 1);
        x.fewer(0, 0, 0, 0);
        x.plan();
        x.told(0, 0);
        x.count(0);
        x.why();
        due.is("calls with none leave it", x.status(), 1);
        x.as(0, 0);
        due.is("as() that had none", x.status(), 0);
        x.as(0, 6);
        due.is("KIND", x.status(), 3);
        x.sheet(0, 1, 4);
        due.is("sheet that had none", x.status(), 0);
        x.write(0, 0, 9);
        due.is("PLACE", x.status(), 2);
        x.check(0, 0, 0, 0, 4);
        due.is("a check that refused", x.status(), 0);
        x.sheet(1, 0, -1);
        due.is("SIZE", x.status(), 4);
        x.drop(0);
        due.is("drop that had none", x.status(), 0);
    }

    public static void main(String[] args) {
        kinds();
        asks();
        trace();
        counts();
        status();
        due.end();
    }
}
