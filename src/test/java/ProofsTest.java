/** Promises 14 to 16 and 20: proof, answer, write, fewer. */
public final class ProofsTest {
    private static final Due due = new Due("ProofsTest");
    private static final int FIRST = Tape.leaf(-1, 0), LAST = Tape.leaf(1000, 0);

    /** Leaves -1 10 20 | 30 1000: the left part has three, of which two are its left part. */
    private static ProvenRows threeRows(String plan) {
        ProvenRows x = new ProvenRows();
        Tape.rows(x, 0, 10, 5, 20, 6, 30, 7);
        Tape.rows(x, 1, 20, 60);
        Tape.plan(x, plan);
        return x;
    }

    private static void proofIs(String plan, int... want) {
        ProvenRows x = threeRows(plan);
        due.is("WORDS of " + plan, x.proof(0, -1), want.length);
        due.are("proof of " + plan, i -> x.proof(0, i), want);
    }

    private static void proofs() {
        int ahead = Tape.fork(FIRST, 0, Tape.leaf(10, 5), 5);
        int left = Tape.fork(ahead, 5, Tape.leaf(20, 6), 6);
        int right = Tape.fork(Tape.leaf(30, 7), 7, LAST, 0);
        int ten = Tape.leaf(10, 5);
        int twenty = Tape.leaf(20, 6);
        proofIs("range 0 20 20;", 5, 1, 1, 1, 0, FIRST, 0, 1, 10, 5, 1, 20, 6, 1, 1, 30, 7, 0, LAST, 0);
        proofIs("range 0 0 9;", 5, 1, 1, 1, 1, -1, 0, 1, 10, 5, 0, twenty, 6, 0, right, 7);
        proofIs("range 0 11 19;", 5, 1, 1, 1, 0, FIRST, 0, 1, 10, 5, 1, 20, 6, 0, right, 7);
        proofIs("range 0 31 999;", 5, 1, 0, left, 11, 1, 1, 30, 7, 1, 1000, 0);
        proofIs("range 0 30 30;", 5, 1, 1, 0, ahead, 5, 1, 20, 6, 1, 1, 30, 7, 1, 1000, 0);
        proofIs("range 0 10 10;", 5, 1, 1, 1, 1, -1, 0, 1, 10, 5, 1, 20, 6, 0, right, 7);
        proofIs("sum 0 0 999;", 5, 1, 1, 1, 1, -1, 0, 1, 10, 5, 0, twenty, 6, 1, 1, 30, 7, 1, 1000, 0);
        proofIs("sum 0 10 20;", 5, 1, 1, 1, 1, -1, 0, 1, 10, 5, 1, 20, 6, 1, 1, 30, 7, 0, LAST, 0);
        proofIs("sum 0 20 20;", 5, 1, 1, 1, 0, FIRST, 0, 1, 10, 5, 1, 20, 6, 1, 1, 30, 7, 0, LAST, 0);
        proofIs("sum 0 11 19;", 5, 1, 1, 1, 0, FIRST, 0, 1, 10, 5, 1, 20, 6, 0, right, 7);
        proofIs("first 0 0 1;", 5, 1, 1, 1, 1, -1, 0, 1, 10, 5, 0, twenty, 6, 0, right, 7);
        proofIs("first 0 11 2;", 5, 1, 1, 1, 0, FIRST, 0, 1, 10, 5, 1, 20, 6, 1, 1, 30, 7, 0, LAST, 0);
        proofIs("first 0 31 1;", 5, 1, 0, left, 11, 1, 1, 30, 7, 1, 1000, 0);
        proofIs("first 0 31 14;", 5, 1, 0, left, 11, 1, 1, 30, 7, 1, 1000, 0);
        proofIs("probe 0 10;", 5, 1, 1, 1, 1, -1, 0, 1, 10, 5, 1, 20, 6, 0, right, 7);
        proofIs("probe 0 999;", 5, 1, 0, left, 11, 1, 1, 30, 7, 1, 1000, 0);
        proofIs("probe 2 0;", 2, 1, 1, -1, 0, 1, 1000, 0);
        int[] probe10 = {3, 1, 1, 1, -1, 0, 1, 20, 60, 0, LAST, 0};
        int[] probe20 = {3, 1, 1, 1, -1, 0, 1, 20, 60, 1, 1000, 0};
        int[] range = {5, 1, 1, 1, 1, -1, 0, 1, 10, 5, 1, 20, 6, 1, 1, 30, 7, 0, LAST, 0};
        proofIs("join 0 1 10 20;", all(range, probe10, probe20));
        proofIs("not 0 1 10 20;", all(range, probe10, probe20));
        proofIs("merge 0 1 10 20;", all(range, probe20));
        proofIs("join 0 1 11 19;", 5, 1, 1, 1, 0, FIRST, 0, 1, 10, 5, 1, 20, 6, 0, right, 7);
        proofIs("join 1 0 0 999;", all(probe20,
            new int[] {5, 1, 1, 1, 0, FIRST, 0, 1, 10, 5, 1, 20, 6, 1, 1, 30, 7, 0, LAST, 0}));
        due.is("SEALS of leaves differ", ten == twenty ? 1 : 0, 0);
    }

    private static int[] all(int[]... parts) {
        return java.util.Arrays.stream(parts).flatMapToInt(java.util.Arrays::stream).toArray();
    }

    private static void answerIs(String plan, int... want) {
        ProvenRows x = threeRows(plan);
        due.is("how many of " + plan, x.answer(0, -1), want.length);
        due.are("answer of " + plan, i -> x.answer(0, i), want);
    }

    private static void answers() {
        answerIs("range 0 10 29;", 10, 5, 20, 6);
        answerIs("range 0 11 19;");
        answerIs("range 0 0 999;", 10, 5, 20, 6, 30, 7);
        answerIs("sum 0 0 999;", 2, 18);
        answerIs("sum 0 11 999;", 2, 13);
        answerIs("sum 0 11 29;", 1, 6);
        answerIs("sum 0 11 19;", 0, 0);
        answerIs("first 0 0 2;", 10, 5, 20, 6);
        answerIs("first 0 20 14;", 20, 6, 30, 7);
        answerIs("first 0 20 3;", 20, 6, 30, 7);
        answerIs("first 0 31 3;");
        answerIs("probe 0 20;", 20, 6);
        answerIs("probe 0 21;");
        answerIs("join 0 1 0 999;", 20, 6, 60);
        answerIs("merge 0 1 0 999;", 20, 6, 60);
        answerIs("merge 1 0 20 20;", 20, 60, 6);
        answerIs("join 0 1 21 999;");
        answerIs("not 0 1 0 999;", 10, 5, 30, 7);
        answerIs("not 1 0 0 999;");
        answerIs("not 0 2 20 30;", 20, 6, 30, 7);
        answerIs("join 0 0 20 30;", 20, 6, 6, 30, 7, 7);
        answerIs("not 0 0 0 999;");
    }

    private static void asTablesAreNow() {
        ProvenRows x = threeRows("range 0 10 20;");
        int words = x.proof(0, -1);
        x.take(0, 20);
        due.are("answer without 20", i -> x.answer(0, i), 10, 5);
        x.put(0, 15, 999);
        due.are("answer with 15", i -> x.answer(0, i), 10, 5, 15, 999);
        due.is("WORDS", x.proof(0, -1), words);
        due.is("act 1", x.proof(1, 0), Tape.BAD);
        due.is("act -1", x.proof(-1, 0), Tape.BAD);
        due.is("i -2", x.proof(0, -2), Tape.BAD);
        due.is("i most", x.proof(0, Integer.MAX_VALUE), Tape.NONE);
        due.is("act 1", x.answer(1, 0), Tape.BAD);
        due.is("act -1", x.answer(-1, 0), Tape.BAD);
        due.is("i -2", x.answer(0, -2), Tape.BAD);
        due.is("i least", x.answer(0, Integer.MIN_VALUE), Tape.BAD);
        due.is("i most", x.answer(0, Integer.MAX_VALUE), Tape.NONE);
    }

    private static void write() {
        ProvenRows x = threeRows("range 0 20 20;probe 2 5;");
        due.is("missing", x.write(0, 0, 0), Tape.NULL);
        due.is("status", x.status(), 1);
        x.sheet(0, 2, 30);
        x.sheet(1, 1, 30);
        x.sheet(2, 2, 7);
        due.is("at 0", x.write(0, 0, 0), 20);
        due.is("at the end", x.write(0, 0, 10), 20);
        due.is("status", x.status(), 0);
        due.is("beyond the end", x.write(0, 0, 11), Tape.PLACE);
        due.is("status", x.status(), 2);
        due.is("below 0", x.write(0, 0, -1), Tape.PLACE);
        due.is("i most", x.write(0, 0, Integer.MAX_VALUE), Tape.PLACE);
        due.is("a SHEET too small", x.write(1, 2, 0), Tape.PLACE);
        due.is("shorts", x.write(0, 1, 0), Tape.STORE);
        due.is("status", x.status(), 5);
        due.is("shorts, no such place", x.write(0, 1, 11), Tape.PLACE);
        due.is("act 2", x.write(2, 0, 0), Tape.BAD);
        due.is("act -1", x.write(-1, 0, 0), Tape.BAD);
        due.is("sheet 8", x.write(0, 8, 0), Tape.BAD);
        due.is("sheet -1", x.write(0, -1, 0), Tape.BAD);
        due.is("status after BAD", x.status(), 2);
        x.round();
        due.is("what was found wrote nothing", x.check(0, 0, 0, 10, 20), 1);
    }

    private static void fewer() {
        ProvenRows x = new ProvenRows();
        due.is("empty: as many", x.fewer(0, 1, 0, 999), 4);
        for (int i = 0; i < 14; i++) {
            x.put(0, 10 * i, i);
        }
        x.put(2, 500, 1);
        due.is("empty b: 14 PROBES of 8 against one", x.fewer(0, 1, 0, 999), 5);
        due.is("no ROW of a: nothing against one", x.fewer(1, 0, 0, 999), 4);
        due.is("one ROW, as many", x.fewer(0, 1, 10, 10), 4);
        due.is("two ROWS", x.fewer(0, 1, 10, 20), 5);
        due.is("one PROBE against all of b", x.fewer(2, 0, 0, 999), 4);
        for (int a = 0; a < 3; a++) {
            for (int low = 0; low < 140; low += 15) {
                fewerByWords(x, a, low);
            }
        }
        due.is("a -1", x.fewer(-1, 0, 0, 0), Tape.BAD);
        due.is("a 3", x.fewer(3, 0, 0, 0), Tape.BAD);
        due.is("b -1", x.fewer(0, -1, 0, 0), Tape.BAD);
        due.is("b 3", x.fewer(0, 3, 0, 0), Tape.BAD);
        due.is("low -1", x.fewer(0, 0, -1, 0), Tape.BAD);
        due.is("high 1000", x.fewer(0, 0, 0, 1000), Tape.BAD);
        due.is("high below low", x.fewer(0, 0, 1, 0), Tape.BAD);
        due.is("low 999", x.fewer(0, 0, 999, 999), 4);
    }

    private static void fewerByWords(ProvenRows x, int a, int low) {
        ProvenRows y = new ProvenRows();
        for (int i = 0; i < 14; i++) {
            y.put(0, 10 * i, i);
        }
        y.put(2, 500, 1);
        Tape.plan(y, "join " + a + " 0 " + low + " 600;merge " + a + " 0 " + low + " 600;");
        int want = y.proof(1, -1) < y.proof(0, -1) ? 5 : 4;
        due.is("fewer(" + a + ", 0, " + low + ", 600)", x.fewer(a, 0, low, 600), want);
    }

    public static void main(String[] args) {
        proofs();
        answers();
        asTablesAreNow();
        write();
        fewer();
        due.end();
    }
}
