/** Promise 15: answer. */
public final class Promise15Test {
    private static final Due due = new Due("Promise15Test");

    private static void answerIs(String plan, int... want) {
        ProvenRows x = Three.planned(plan);
        due.areAll(plan, i -> x.answer(0, i), want);
    }

    /** "RANGE: the ROWS: KEY, VALUE each": low and high are in it. */
    private static void range() {
        answerIs("range 0 10 30;", 10, 5, 20, 6, 30, 7);
        answerIs("range 0 0 999;", 10, 5, 20, 6, 30, 7);
        answerIs("range 0 10 29;", 10, 5, 20, 6);
        answerIs("range 0 11 30;", 20, 6, 30, 7);
        answerIs("range 0 11 29;", 20, 6);
        answerIs("range 0 11 19;");
        answerIs("range 0 0 9;");
        answerIs("range 0 31 999;");
        answerIs("range 2 0 999;");
    }

    /** "SUM: how many ROWS low to high are SHOWN, and the sum of VALUES of all of them": two at most are SHOWN. */
    private static void sum() {
        answerIs("sum 0 11 19;", 0, 0);
        answerIs("sum 0 20 20;", 1, 6);
        answerIs("sum 0 20 30;", 2, 13);
        answerIs("sum 0 10 30;", 2, 18);
        answerIs("sum 0 0 999;", 2, 18);
        answerIs("sum 0 31 999;", 0, 0);
        answerIs("sum 2 0 999;", 0, 0);
        ProvenRows x = new ProvenRows();
        for (int i = 0; i < 14; i++) {
            x.put(0, 71 * i, 999);
        }
        Tape.plan(x, "sum 0 0 999;sum 0 1 922;");
        due.areAll("the greatest", i -> x.answer(0, i), 2, 13986);
        due.areAll("without the first and the last", i -> x.answer(1, i), 2, 11988);
    }

    /** "(of FIRST those of the next k leaves, but for that of KEY 1000)". */
    private static void first() {
        answerIs("first 0 0 1;", 10, 5);
        answerIs("first 0 10 1;", 10, 5);
        answerIs("first 0 11 1;", 20, 6);
        answerIs("first 0 0 2;", 10, 5, 20, 6);
        answerIs("first 0 0 3;", 10, 5, 20, 6, 30, 7);
        answerIs("first 0 0 4;", 10, 5, 20, 6, 30, 7);
        answerIs("first 0 0 14;", 10, 5, 20, 6, 30, 7);
        answerIs("first 0 30 2;", 30, 7);
        answerIs("first 0 31 1;");
        answerIs("first 0 999 14;");
        answerIs("first 2 0 14;");
    }

    private static void probe() {
        answerIs("probe 0 10;", 10, 5);
        answerIs("probe 0 30;", 30, 7);
        answerIs("probe 0 9;");
        answerIs("probe 0 11;");
        answerIs("probe 0 0;");
        answerIs("probe 0 999;");
        answerIs("probe 2 20;");
    }

    /** "JOIN, MERGE: of each KEY that both have KEY, VALUE in a, VALUE in b". */
    private static void joinAndMerge() {
        for (String word : new String[] {"join", "merge"}) {
            answerIs(word + " 0 1 0 999;", 20, 6, 60);
            answerIs(word + " 1 0 0 999;", 20, 60, 6);
            answerIs(word + " 0 1 20 20;", 20, 6, 60);
            answerIs(word + " 0 1 21 999;");
            answerIs(word + " 0 1 0 19;");
            answerIs(word + " 0 2 0 999;");
            answerIs(word + " 2 0 0 999;");
            answerIs(word + " 2 2 0 999;");
            answerIs(word + " 0 0 20 30;", 20, 6, 6, 30, 7, 7);
        }
    }

    /** "NOT: of ROWS of a of which b has no such KEY KEY, VALUE". */
    private static void not() {
        answerIs("not 0 1 0 999;", 10, 5, 30, 7);
        answerIs("not 1 0 0 999;");
        answerIs("not 0 1 20 20;");
        answerIs("not 0 1 21 999;", 30, 7);
        answerIs("not 0 2 0 999;", 10, 5, 20, 6, 30, 7);
        answerIs("not 2 0 0 999;");
        answerIs("not 0 0 0 999;");
    }

    /** KEYS 0 and 999, VALUES 0 and 999 are ROWS as any. */
    private static void ends() {
        ProvenRows x = new ProvenRows();
        Tape.rows(x, 0, 0, 999, 999, 0);
        Tape.rows(x, 1, 0, 0, 999, 999);
        Tape.plan(x, "range 0 0 999;range 0 1 998;sum 0 0 0;first 0 999 9;join 0 1 0 999;not 0 1 0 999;probe 1 999;");
        due.areAll("range", i -> x.answer(0, i), 0, 999, 999, 0);
        due.areAll("range without the ends", i -> x.answer(1, i));
        due.areAll("sum", i -> x.answer(2, i), 1, 999);
        due.areAll("first", i -> x.answer(3, i), 999, 0);
        due.areAll("join", i -> x.answer(4, i), 0, 999, 0, 999, 0, 999);
        due.areAll("not", i -> x.answer(5, i));
        due.areAll("probe", i -> x.answer(6, i), 999, 999);
    }

    /** All 14 ROWS in both TABLES: the longest ANSWER has 42 numbers. */
    private static void longest() {
        ProvenRows x = new ProvenRows();
        int[] want = new int[42];
        for (int i = 0; i < 14; i++) {
            x.put(0, 71 * i, 100 + i);
            x.put(1, 71 * i, 200 + i);
            want[3 * i] = 71 * i;
            want[3 * i + 1] = 100 + i;
            want[3 * i + 2] = 200 + i;
        }
        Tape.plan(x, "join 0 1 0 999;merge 0 1 0 999;not 0 2 0 999;");
        due.areAll("join", i -> x.answer(0, i), want);
        due.areAll("merge", i -> x.answer(1, i), want);
        due.is("not", x.answer(2, -1), 28);
        due.is("its last", x.answer(2, 27), 113);
    }

    /** "as TABLES are now", be there a ROUND or not. */
    private static void asTablesAreNow() {
        ProvenRows x = Three.planned("range 0 10 20;not 0 1 0 999;");
        x.take(0, 20);
        due.areAll("without 20", i -> x.answer(0, i), 10, 5);
        x.put(0, 15, 999);
        due.areAll("with 15", i -> x.answer(0, i), 10, 5, 15, 999);
        x.put(1, 15, 0);
        due.areAll("15 in TABLE 1, too", i -> x.answer(1, i), 10, 5, 30, 7);
    }

    /** "NONE: not so many", "BAD: ACT, i below -1". */
    private static void notSoManyAndBad() {
        ProvenRows y = Three.planned("range 0 10 10;");
        for (int i : new int[] {2, 3, 48, 600, Tape.MOST}) {
            due.is("answer(0, " + i + ")", y.answer(0, i), Tape.NONE);
        }
        due.is("no ACT at all", new ProvenRows().answer(0, -1), Tape.BAD);
        for (int act : Tape.outside(8)) {
            Twins.refused(due, "answer(" + act + ", 0)", x -> x.answer(act, 0), Tape.BAD);
            Twins.refused(due, "answer(" + act + ", -1)", x -> x.answer(act, -1), Tape.BAD);
        }
        for (int i : new int[] {-2, -3, Tape.NONE, Tape.LEAST}) {
            Twins.refused(due, "answer(0, " + i + ")", x -> x.answer(0, i), Tape.BAD);
        }
    }

    public static void main(String[] args) {
        range();
        sum();
        first();
        probe();
        joinAndMerge();
        not();
        ends();
        longest();
        asTablesAreNow();
        notSoManyAndBad();
        due.end();
    }
}
