/** Promise 14: proof. */
public final class Promise14Test {
    private static final Due due = new Due("Promise14Test");

    /** TABLE 0 with ROWS of KEYS 10, 20, .. and VALUES 101, 102, .. */
    private static int[] tens(int n) {
        int[] rows = new int[2 * n];
        for (int i = 0; i < n; i++) {
            rows[2 * i] = 10 * i + 10;
            rows[2 * i + 1] = 101 + i;
        }
        return rows;
    }

    private static void proofOfTens(int n, String plan, int... want) {
        ProvenRows x = new ProvenRows();
        Tape.rows(x, 0, tens(n));
        Tape.plan(x, plan);
        due.areAll(n + " ROWS: " + plan, i -> x.proof(0, i), want);
    }

    private static void proofOfThree(String plan, int... want) {
        ProvenRows x = Three.planned(plan);
        due.areAll(plan, i -> x.proof(0, i), want);
    }

    /** Told by hand: "0, its SEAL, its SUM, if none of its leaves is to be SHOWN; else 1, ..". */
    private static void byHand() {
        proofOfThree("range 0 20 20;", 5, 1, 1, 1, 0, Three.FIRST, 0, 1, 10, 5, 1, 20, 6, 1, 1, 30, 7, 0, Three.LAST, 0);
        proofOfThree("range 0 31 999;", 5, 1, 0, Three.LEFT, 11, 1, 1, 30, 7, 1, 1000, 0);
        proofOfThree("range 0 0 9;", 5, 1, 1, 1, 1, -1, 0, 1, 10, 5, 0, Three.TWENTY, 6, 0, Three.RIGHT, 7);
        proofOfThree("range 0 30 30;", 5, 1, 1, 0, Three.AHEAD, 5, 1, 20, 6, 1, 1, 30, 7, 1, 1000, 0);
        proofOfThree("sum 0 0 999;", 5, 1, 1, 1, 1, -1, 0, 1, 10, 5, 0, Three.TWENTY, 6, 1, 1, 30, 7, 1, 1000, 0);
        proofOfThree("probe 2 0;", 2, 1, 1, -1, 0, 1, 1000, 0);
    }

    /** m from 2 to 16: nothing between the ends, all of it, and each leaf with its neighbours. */
    private static void everySize() {
        for (int n = 0; n <= 14; n++) {
            Leaves leaves = new Leaves(tens(n));
            int last = n + 1;
            proofOfTens(n, "range 0 0 999;", leaves.proof(0, last));
            proofOfTens(n, "range 0 0 9;", leaves.proof(0, 1));
            proofOfTens(n, "range 0 999 999;", leaves.proof(n, last));
            for (int i = 1; i <= n; i++) {
                proofOfTens(n, "probe 0 " + 10 * i + ";", leaves.proof(i - 1, i + 1));
                proofOfTens(n, "probe 0 " + (10 * i + 5) + ";", leaves.proof(i, i + 1));
            }
        }
    }

    /** "all ROWS with KEYS low to high, the leaf ahead of them and the one behind them": low and high are in it. */
    private static void range() {
        Leaves six = new Leaves(tens(6));
        proofOfTens(6, "range 0 20 40;", six.proof(1, 5));
        proofOfTens(6, "range 0 11 49;", six.proof(1, 5));
        proofOfTens(6, "range 0 21 39;", six.proof(2, 4));
        proofOfTens(6, "range 0 19 41;", six.proof(1, 5));
        proofOfTens(6, "range 0 21 29;", six.proof(2, 3));
        proofOfTens(6, "range 0 10 60;", six.proof(0, 7));
        proofOfTens(6, "range 0 11 59;", six.proof(1, 6));
        proofOfTens(6, "range 0 0 10;", six.proof(0, 2));
        proofOfTens(6, "range 0 60 999;", six.proof(5, 7));
        proofOfTens(6, "range 0 61 999;", six.proof(6, 7));
    }

    private static boolean[] shown(int m, int... places) {
        boolean[] shown = new boolean[m];
        for (int place : places) {
            shown[place] = true;
        }
        return shown;
    }

    /** "of these the leaf ahead, the first and the last of those ROWS, and the leaf behind": none, one, two, more. */
    private static void sum() {
        Leaves six = new Leaves(tens(6));
        proofOfTens(6, "sum 0 21 29;", six.proof(shown(8, 2, 3)));
        proofOfTens(6, "sum 0 20 20;", six.proof(shown(8, 1, 2, 3)));
        proofOfTens(6, "sum 0 20 30;", six.proof(shown(8, 1, 2, 3, 4)));
        proofOfTens(6, "sum 0 20 40;", six.proof(shown(8, 1, 2, 4, 5)));
        proofOfTens(6, "sum 0 0 999;", six.proof(shown(8, 0, 1, 6, 7)));
        proofOfTens(6, "sum 0 11 999;", six.proof(shown(8, 1, 2, 6, 7)));
        proofOfTens(6, "sum 0 0 0;", six.proof(shown(8, 0, 1)));
        proofOfTens(6, "sum 0 999 999;", six.proof(shown(8, 6, 7)));
        proofOfTens(0, "sum 0 0 999;", new Leaves().proof(0, 1));
        proofOfTens(14, "sum 0 0 999;", new Leaves(tens(14)).proof(shown(16, 0, 1, 14, 15)));
    }

    /** "the leaf ahead of low and the next k leaves (fewer, if there are not so many)": that of KEY 1000 is one of them. */
    private static void first() {
        Leaves six = new Leaves(tens(6));
        proofOfTens(6, "first 0 0 1;", six.proof(0, 1));
        proofOfTens(6, "first 0 10 1;", six.proof(0, 1));
        proofOfTens(6, "first 0 11 1;", six.proof(1, 2));
        proofOfTens(6, "first 0 41 2;", six.proof(4, 6));
        proofOfTens(6, "first 0 41 3;", six.proof(4, 7));
        proofOfTens(6, "first 0 41 4;", six.proof(4, 7));
        proofOfTens(6, "first 0 0 6;", six.proof(0, 6));
        proofOfTens(6, "first 0 0 7;", six.proof(0, 7));
        proofOfTens(6, "first 0 0 14;", six.proof(0, 7));
        proofOfTens(6, "first 0 999 1;", six.proof(6, 7));
        proofOfTens(6, "first 0 999 14;", six.proof(6, 7));
        proofOfTens(0, "first 0 0 14;", new Leaves().proof(0, 1));
        proofOfTens(14, "first 0 0 14;", new Leaves(tens(14)).proof(0, 14));
        proofOfTens(14, "first 0 11 14;", new Leaves(tens(14)).proof(1, 15));
    }

    /** "RANGE a low high, then for each of its ROWS PROBE b its KEY": "one behind the other", none if there is no ROW. */
    private static void pairs() {
        Leaves three = new Leaves(10, 5, 20, 6, 30, 7);
        Leaves one = new Leaves(20, 60);
        int[] range = three.proof(0, 3);
        for (String word : new String[] {"join", "not"}) {
            proofOfThree(word + " 0 1 10 20;", Three.all(range, one.proof(0, 1), one.proof(0, 2)));
            proofOfThree(word + " 0 1 11 19;", three.proof(1, 2));
            proofOfThree(word + " 0 1 20 999;", Three.all(three.proof(1, 4), one.proof(0, 2), one.proof(1, 2)));
            proofOfThree(word + " 2 1 0 999;", new Leaves().proof(0, 1));
            proofOfThree(word + " 0 2 20 20;", Three.all(three.proof(1, 3), new Leaves().proof(0, 1)));
            proofOfThree(word + " 0 0 30 30;", Three.all(three.proof(2, 4), three.proof(2, 4)));
        }
        proofOfThree("merge 0 1 10 20;", Three.all(range, one.proof(0, 2)));
        proofOfThree("merge 0 1 11 19;", Three.all(three.proof(1, 2), one.proof(0, 1)));
        proofOfThree("merge 2 1 0 999;", Three.all(Three.WHOLE_2, Three.WHOLE_1));
        proofOfThree("merge 2 2 0 999;", Three.all(Three.WHOLE_2, Three.WHOLE_2));
        proofOfThree("merge 1 0 30 30;", Three.all(one.proof(1, 2), three.proof(2, 4)));
    }

    /** The widest that there is: 14 PROBES in a full TABLE; all its numbers stay below those of a SHEET. */
    private static void widest() {
        ProvenRows x = new ProvenRows();
        Tape.rows(x, 0, tens(14));
        Tape.rows(x, 1, tens(14));
        Tape.plan(x, "join 0 1 0 999;");
        Leaves full = new Leaves(tens(14));
        int[] want = full.proof(0, 15);
        for (int i = 1; i <= 14; i++) {
            want = Three.all(want, full.proof(i - 1, i + 1));
        }
        due.is("WORDS", x.proof(0, -1), want.length);
        for (int i = 0; i < want.length; i += 2) {
            due.is("number " + i, x.proof(0, i), want[i]);
        }
        due.is("the last", x.proof(0, want.length - 1), want[want.length - 1]);
        due.is("behind the last", x.proof(0, want.length), Tape.NONE);
    }

    /** Of ACTS one behind the other: what was SHOWN of one is not SHOWN of the next. */
    private static void oneBehindTheOther() {
        Leaves six = new Leaves(tens(6));
        int[] all = six.proof(0, 7);
        int[][] want = {all, six.proof(2, 3), six.proof(shown(8, 0, 1, 6, 7)), six.proof(4, 5)};
        ProvenRows x = new ProvenRows();
        Tape.rows(x, 0, tens(6));
        Tape.plan(x, "range 0 0 999;first 0 21 1;sum 0 0 999;probe 0 45;");
        for (int act = 1; act < 4; act++) {
            int each = act;
            due.is("all are SHOWN", x.proof(0, 31), all[31]);
            due.areAll("ACT " + act + " behind it", i -> x.proof(each, i), want[act]);
        }
    }

    /** "as TABLES are now". */
    private static void asTablesAreNow() {
        ProvenRows x = Three.planned("range 0 10 20;");
        x.take(0, 20);
        due.areAll("without 20", i -> x.proof(0, i), new Leaves(10, 5, 30, 7).proof(0, 2));
        x.put(0, 15, 999);
        due.areAll("with 15", i -> x.proof(0, i), new Leaves(10, 5, 15, 999, 30, 7).proof(0, 3));
        x.put(0, 30, 8);
        due.areAll("with another VALUE", i -> x.proof(0, i), new Leaves(10, 5, 15, 999, 30, 8).proof(0, 3));
        x.put(1, 7, 7);
        due.areAll("TABLE 1 is none of its", i -> x.proof(0, i), new Leaves(10, 5, 15, 999, 30, 8).proof(0, 3));
    }

    /** "NONE: not so many". */
    private static void notSoMany() {
        ProvenRows x = Three.planned("range 2 0 999;");
        due.is("the last", x.proof(0, 7), 0);
        for (int i : new int[] {8, 9, 600, Tape.MOST}) {
            due.is("proof(0, " + i + ")", x.proof(0, i), Tape.NONE);
        }
    }

    /** "BAD: ACT, i below -1". In Twins there are eight ACTS. */
    private static void bad() {
        due.is("no ACT at all", new ProvenRows().proof(0, -1), Tape.BAD);
        for (int act : Tape.outside(8)) {
            Twins.refused(due, "proof(" + act + ", 0)", x -> x.proof(act, 0), Tape.BAD);
            Twins.refused(due, "proof(" + act + ", -1)", x -> x.proof(act, -1), Tape.BAD);
        }
        for (int i : new int[] {-2, -3, Tape.NONE, Tape.LEAST}) {
            Twins.refused(due, "proof(0, " + i + ")", x -> x.proof(0, i), Tape.BAD);
        }
    }

    public static void main(String[] args) {
        byHand();
        everySize();
        range();
        sum();
        first();
        pairs();
        widest();
        oneBehindTheOther();
        asTablesAreNow();
        notSoMany();
        bad();
        due.end();
    }
}
