/** Promises 17 to 19 and 21: check, why, read, forged. */
public final class CheckTest {
    private static final Due due = new Due("CheckTest");
    private static final int FIRST = Tape.leaf(-1, 0), LAST = Tape.leaf(1000, 0);
    private static final int TEN = Tape.leaf(10, 5), TWENTY = Tape.leaf(20, 6), THIRTY = Tape.leaf(30, 7);
    private static final int AHEAD = Tape.fork(FIRST, 0, TEN, 5);
    private static final int LEFT = Tape.fork(AHEAD, 5, TWENTY, 6);
    private static final int RIGHT = Tape.fork(THIRTY, 7, LAST, 0);

    /** Leaves -1 10 20 | 30 1000 in TABLE 0, -1 20 | 1000 in TABLE 1, -1 | 1000 in TABLE 2. */
    private static ProvenRows three(String plan) {
        ProvenRows x = new ProvenRows();
        Tape.rows(x, 0, 10, 5, 20, 6, 30, 7);
        Tape.rows(x, 1, 20, 60);
        x.round();
        Tape.plan(x, plan);
        return x;
    }

    private static void taken(String name, String plan, int[] numbers, int... want) {
        ProvenRows x = three(plan);
        Tape.fill(x, numbers);
        due.is(name + ": check", x.check(0, 0, 7, 0, numbers.length), 1);
        due.is(name + ": why", x.why(), 0);
        due.is(name + ": how many", x.read(-1), want.length);
        due.are(name + ": read", x::read, want);
    }

    private static void refused(String name, String plan, int[] numbers, int wrong, int why) {
        ProvenRows x = three(plan);
        Tape.fill(x, numbers);
        due.is(name + ": check", x.check(0, 0, 7, 0, numbers.length), -1000200 - wrong);
        due.is(name + ": why", x.why(), why);
        due.is(name + ": status", x.status(), 0);
        due.is(name + ": how many", x.read(-1), 0);
        due.is(name + ": read", x.read(0), Tape.NONE);
    }

    private static int[] of(int... numbers) {
        return numbers;
    }

    private static int[] with(int[] numbers, int place, int number) {
        int[] changed = numbers.clone();
        changed[place] = number;
        return changed;
    }

    private static int[] all(int[]... parts) {
        return java.util.Arrays.stream(parts).flatMapToInt(java.util.Arrays::stream).toArray();
    }

    private static final int[] WHOLE = {5, 1, 1, 1, 1, -1, 0, 1, 10, 5, 1, 20, 6, 1, 1, 30, 7, 1, 1000, 0};

    private static void takenAsTold() {
        taken("all SHOWN", "range 0 0 999;", WHOLE, 10, 5, 20, 6, 30, 7);
        taken("more SHOWN than is needed", "range 0 11 29;", WHOLE, 20, 6);
        taken("more SHOWN: probe", "probe 0 15;", WHOLE);
        taken("more SHOWN: probe of one there", "probe 0 30;", WHOLE, 30, 7);
        taken("more SHOWN: sum", "sum 0 0 999;", WHOLE, 3, 18);
        taken("more SHOWN: first", "first 0 15 1;", WHOLE, 20, 6);
        taken("first, all that there are", "first 0 15 14;", WHOLE, 20, 6, 30, 7);
        taken("a fork told by parts that are not SHOWN", "first 0 20 1;",
            of(5, 1, 1, 1, 0, FIRST, 0, 1, 10, 5, 1, 20, 6, 1, 0, THIRTY, 7, 0, LAST, 0), 20, 6);
        taken("a sum of what is hidden", "sum 0 10 30;",
            of(5, 1, 1, 1, 1, -1, 0, 1, 10, 5, 0, TWENTY, 6, 1, 1, 30, 7, 1, 1000, 0), 2, 18);
        taken("no ROWS: neighbours", "sum 0 11 19;",
            of(5, 1, 1, 1, 0, FIRST, 0, 1, 10, 5, 1, 20, 6, 0, RIGHT, 7), 0, 0);
        taken("first behind the last ROW", "first 0 31 9;", of(5, 1, 0, LEFT, 11, 1, 1, 30, 7, 1, 1000, 0));
    }

    private static void badNumbers() {
        String plan = "range 0 0 999;";
        refused("m 1", plan, with(WHOLE, 0, 1), 0, 1);
        refused("m 17", plan, with(WHOLE, 0, 17), 0, 1);
        refused("m -1", plan, with(WHOLE, 0, -1), 0, 1);
        refused("m 2: other places", plan, with(WHOLE, 0, 2), 3, 1);
        refused("m 16: a key for a leaf", plan, with(WHOLE, 0, 16), 5, 1);
        refused("a beginning 2", plan, with(WHOLE, 1, 2), 1, 1);
        refused("a beginning -1", plan, with(WHOLE, 2, -1), 2, 1);
        refused("first KEY 0", plan, with(WHOLE, 5, 0), 5, 1);
        refused("first VALUE 1", plan, with(WHOLE, 6, 1), 6, 1);
        refused("a KEY -1", plan, with(WHOLE, 8, -1), 8, 1);
        refused("a KEY 1000", plan, with(WHOLE, 15, 1000), 15, 1);
        refused("a KEY as the one ahead", plan, with(WHOLE, 11, 10), 11, 1);
        refused("a KEY below the one ahead", plan, with(WHOLE, 15, 19), 15, 1);
        refused("a KEY behind 999", plan, with(WHOLE, 11, 999), 15, 1);
        refused("a VALUE -1", plan, with(WHOLE, 9, -1), 9, 1);
        refused("a VALUE 1000", plan, with(WHOLE, 9, 1000), 9, 1);
        refused("a VALUE 999", plan, with(WHOLE, 9, 999), 20, 2);
        refused("last KEY 999", plan, with(WHOLE, 18, 999), 18, 1);
        refused("last VALUE 1", plan, with(WHOLE, 19, 1), 19, 1);
        refused("a leaf that begins with 0", plan, with(WHOLE, 4, 0), 5, 1);
        int[] hidden = of(5, 1, 0, LEFT, 11, 1, 1, 30, 7, 1, 1000, 0);
        refused("SEAL -1", "probe 0 40;", with(hidden, 3, -1), 3, 1);
        refused("SEAL 65521", "probe 0 40;", with(hidden, 3, 65521), 3, 1);
        refused("SEAL 65520", "probe 0 40;", with(hidden, 3, 65520), 12, 2);
        refused("SUM -1", "probe 0 40;", with(hidden, 4, -1), 4, 1);
        refused("SUM 14001", "probe 0 40;", with(hidden, 4, 14001), 4, 1);
        refused("SUM 14000", "probe 0 40;", with(hidden, 4, 14000), 12, 2);
        refused("a KEY at the beginning of what is SHOWN may be 0", "probe 0 40;", with(hidden, 7, 0), 12, 2);
        refused("one number more", plan, all(WHOLE, of(5)), 20, 1);
        refused("a PROOF more", plan, all(WHOLE, WHOLE), 20, 1);
        refused("a PROOF more, the SEAL wrong", plan, all(with(WHOLE, 9, 6), WHOLE), 20, 2);
        for (int n = 0; n < WHOLE.length; n++) {
            refused("missing from " + n, plan, java.util.Arrays.copyOf(WHOLE, n), n, 1);
        }
    }

    private static void notEnough() {
        int top = Tape.fork(LEFT, 11, RIGHT, 7);
        for (String plan : new String[] {"range 0 0 999;", "sum 0 0 999;", "first 0 0 1;", "probe 0 10;", "join 0 1 0 9;"}) {
            refused("nothing SHOWN: " + plan, plan, of(5, 0, top, 18), 4, 3);
        }
        refused("nothing SHOWN, the SEAL wrong", "range 0 0 999;", of(5, 0, top, 19), 4, 2);
        int[] noMiddle = of(5, 1, 1, 1, 1, -1, 0, 1, 10, 5, 0, TWENTY, 6, 1, 1, 30, 7, 1, 1000, 0);
        refused("a ROW that is hidden", "range 0 0 999;", noMiddle, 20, 3);
        refused("a probe of it", "probe 0 20;", noMiddle, 20, 3);
        refused("a sum of it", "sum 0 11 29;", noMiddle, 20, 3);
        refused("the first of it", "first 0 11 1;", noMiddle, 20, 3);
        refused("the second of it", "first 0 0 2;", noMiddle, 20, 3);
        refused("a third of it", "first 0 0 3;", noMiddle, 20, 3);
        taken("the first ahead of it", "first 0 0 1;", noMiddle, 10, 5);
        taken("a sum over it", "sum 0 0 999;", noMiddle, 2, 18);
        int[] noFirst = of(5, 1, 1, 1, 1, -1, 0, 0, TEN, 5, 1, 20, 6, 1, 1, 30, 7, 1, 1000, 0);
        refused("first of a sum not beside x", "sum 0 0 999;", noFirst, 20, 3);
        int[] noLast = of(5, 1, 1, 1, 1, -1, 0, 1, 10, 5, 1, 20, 6, 1, 0, THIRTY, 7, 1, 1000, 0);
        refused("last of a sum not beside y", "sum 0 0 999;", noLast, 20, 3);
        refused("none of a sum, x and y apart", "sum 0 25 35;", noLast, 20, 3);
        int[] noAhead = of(5, 1, 1, 0, AHEAD, 5, 1, 20, 6, 1, 1, 30, 7, 1, 1000, 0);
        refused("no x: range", "range 0 20 20;", noAhead, 16, 3);
        refused("no x: first", "first 0 20 1;", noAhead, 16, 3);
        refused("no x: sum", "sum 0 20 20;", noAhead, 16, 3);
        taken("x above", "range 0 21 999;", noAhead, 30, 7);
        int[] noBehind = of(5, 1, 1, 1, 1, -1, 0, 1, 10, 5, 1, 20, 6, 0, RIGHT, 7);
        refused("no y: range", "range 0 20 20;", noBehind, 16, 3);
        refused("no y: sum", "sum 0 20 20;", noBehind, 16, 3);
        taken("no y: first", "first 0 0 2;", noBehind, 10, 5, 20, 6);
        refused("no y, first of more", "first 0 0 3;", noBehind, 16, 3);
        taken("y below", "range 0 0 19;", noBehind, 10, 5);
    }

    private static void pairs() {
        int[] miss10 = of(3, 1, 1, 1, -1, 0, 1, 20, 60, 0, LAST, 0);
        int[] hit20 = of(3, 1, 1, 1, -1, 0, 1, 20, 60, 1, 1000, 0);
        int[] miss30 = of(3, 1, 1, 0, FIRST, 0, 1, 20, 60, 1, 1000, 0);
        int[] join = all(WHOLE, miss10, hit20, miss30);
        taken("join", "join 0 1 0 999;", join, 20, 6, 60);
        taken("not", "not 0 1 0 999;", join, 10, 5, 30, 7);
        taken("merge", "merge 0 1 0 999;", all(WHOLE, hit20), 20, 6, 60);
        taken("join by whole PROOFS", "join 0 1 0 999;", all(WHOLE, hit20, hit20, hit20), 20, 6, 60);
        taken("join without ROWS", "join 2 1 0 999;", of(2, 1, 1, -1, 0, 1, 1000, 0));
        taken("not of an empty TABLE", "not 0 2 20 20;", all(WHOLE, of(2, 1, 1, -1, 0, 1, 1000, 0)), 20, 6);
        taken("join of a TABLE with itself", "join 0 0 20 30;", all(WHOLE, WHOLE, WHOLE), 20, 6, 6, 30, 7, 7);
        taken("merge of a TABLE with itself", "merge 0 0 20 30;", all(WHOLE, WHOLE), 20, 6, 6, 30, 7, 7);
        refused("a PROBE too few", "join 0 1 0 999;", all(WHOLE, miss10, hit20), 44, 1);
        refused("no PROBE", "join 0 1 0 999;", WHOLE, 20, 1);
        refused("a PROBE too many", "join 0 1 0 999;", all(join, hit20), 56, 1);
        refused("a PROBE of another TABLE", "join 0 1 0 999;", all(WHOLE, WHOLE, hit20, miss30), 40, 2);
        refused("PROBES in another order", "join 0 1 0 999;", all(WHOLE, miss10, miss30, hit20), 44, 3);
        refused("a PROBE that shows too little", "join 0 1 0 999;", all(WHOLE, miss10, miss10, miss30), 44, 3);
        refused("the first PROOF wrong", "join 0 1 0 999;", all(with(WHOLE, 9, 6), miss10, hit20, miss30), 20, 2);
        refused("the first PROOF not enough", "merge 0 1 0 999;",
            all(of(5, 1, 0, LEFT, 11, 1, 1, 30, 7, 1, 1000, 0), hit20), 12, 3);
        refused("the second PROOF's KEYS begin anew", "merge 0 1 0 999;", all(WHOLE, with(hit20, 7, 21)), 32, 2);
        refused("the second PROOF not enough", "merge 0 1 0 999;", all(WHOLE, miss10), 32, 3);
        refused("no second PROOF", "merge 0 1 0 999;", WHOLE, 20, 1);
        refused("a third PROOF", "merge 0 1 0 999;", all(WHOLE, hit20, hit20), 32, 1);
    }

    private static void places() {
        ProvenRows x = three("range 0 0 999;sum 0 0 999;");
        due.is("missing", x.check(0, 0, 0, 0, 0), Tape.NULL);
        due.is("status", x.status(), 1);
        x.sheet(0, 2, 25);
        x.write(0, 0, 5);
        due.is("taken", x.check(0, 0, 0, 5, 20), 1);
        due.is("by its WORDS", x.check(0, 0, 0, 5, Tape.NONE), 1);
        due.is("status", x.status(), 0);
        due.is("act 2", x.check(2, 0, 0, 0, 0), Tape.BAD);
        due.is("act -1", x.check(-1, 0, 0, 0, 0), Tape.BAD);
        due.is("round 1", x.check(0, 1, 0, 0, 0), Tape.BAD);
        due.is("round -1", x.check(0, -1, 0, 0, 0), Tape.BAD);
        due.is("sheet 8", x.check(0, 0, 8, 0, 0), Tape.BAD);
        due.is("sheet -1", x.check(0, 0, -1, 0, 0), Tape.BAD);
        due.is("n -1", x.check(0, 0, 0, 0, -1), Tape.BAD);
        due.is("n 601", x.check(0, 0, 0, 0, 601), Tape.BAD);
        due.is("n 601, missing", x.check(0, 0, 1, 0, 601), Tape.BAD);
        due.is("n 600", x.check(0, 0, 0, 0, 600), Tape.PLACE);
        due.is("status", x.status(), 2);
        due.is("i -1", x.check(0, 0, 0, -1, 1), Tape.PLACE);
        due.is("i beyond", x.check(0, 0, 0, 6, Tape.NONE), Tape.PLACE);
        due.is("i most", x.check(0, 0, 0, Integer.MAX_VALUE, 600), Tape.PLACE);
        due.is("what was refused or found left why", x.why(), 0);
        due.is("and read", x.read(-1), 6);
        due.is("none at the end", x.check(0, 0, 0, 25, 0), -1000200);
        due.is("why", x.why(), 1);
        due.is("read", x.read(-1), 0);
        due.is("read(-2)", x.read(-2), Tape.BAD);
        due.is("read least", x.read(Integer.MIN_VALUE), Tape.BAD);
        due.is("read most", x.read(Integer.MAX_VALUE), Tape.NONE);
        x.check(0, 0, 0, 0, 20);
        due.is("found after a refusal", x.check(0, 0, 2, 0, 0), Tape.NULL);
        due.is("leaves why", x.why(), 1);
        x.sheet(1, 1, 8);
        int[] empty = {2, 1, 1, -1, 0, 1, 1000, 0};
        for (int i = 0; i < empty.length; i++) {
            x.set(1, i, empty[i]);
        }
        Tape.plan(x, "probe 2 7;");
        due.is("a SHEET of shorts", x.check(2, 0, 1, 0, Tape.NONE), 1);
        x.sheet(1, 2, 600);
        due.is("600 ITEMS", x.check(2, 0, 1, 0, 600), -1000200);
    }

    private static void rounds() {
        ProvenRows x = three("range 0 0 999;");
        x.sheet(0, 2, 20);
        x.write(0, 0, 0);
        x.put(0, 20, 7);
        x.round();
        due.is("as it was", x.check(0, 0, 0, 0, 20), 1);
        due.is("not as it is", x.check(0, 1, 0, 0, 20), -1000220);
        due.is("why", x.why(), 2);
        x.write(0, 0, 0);
        due.is("as it is", x.check(0, 1, 0, 0, 20), 1);
        due.are("read", x::read, 10, 5, 20, 7, 30, 7);
        due.is("not as it was", x.check(0, 0, 0, 0, 20), -1000220);
        x.take(0, 30);
        due.is("WORDS as TABLES are now", x.check(0, 1, 0, 0, Tape.NONE), -1000216);
        due.is("a number is missing", x.why(), 1);
    }

    /** What an earlier CHECK read must not come into the sum of a later one. */
    private static void oneBehindTheOther() {
        ProvenRows x = new ProvenRows();
        for (int i = 1; i <= 10; i++) {
            x.put(0, 10 * i, 100 + i);
        }
        x.round();
        Tape.plan(x, "range 0 0 999;sum 0 0 999;join 0 0 50 60;not 0 1 50 60;");
        x.sheet(0, 2, 200);
        int[][] want = {{10, 101, 20, 102}, {2, 1055}, {50, 105, 105, 60, 106, 106}, {50, 105, 60, 106}};
        for (int again = 0; again < 2; again++) {
            for (int act = 0; act < 4; act++) {
                x.write(act, 0, 0);
                due.is("check of " + act, x.check(act, 0, 0, 0, Tape.NONE), 1);
                due.is("how many of " + act, x.read(-1), act == 0 ? 20 : want[act].length);
                for (int i = 0; i < want[act].length; i++) {
                    due.is("read of " + act, x.read(i), want[act][i]);
                    due.is("answer of " + act, x.answer(act, i), want[act][i]);
                }
            }
        }
    }

    private static void forged() {
        ProvenRows x = new ProvenRows();
        Tape.rows(x, 0, 10, 5, 20, 6, 30, 7);
        Tape.plan(x, "probe 0 40;join 0 1 0 999;");
        due.is("no ROUND", x.forged(0, 1), Tape.STATE);
        x.round();
        due.is("d 1", x.forged(0, 1), 0);
        due.is("act 2", x.forged(2, 1), Tape.BAD);
        due.is("act -1", x.forged(-1, 1), Tape.BAD);
        due.is("d 0", x.forged(0, 0), Tape.BAD);
        due.is("d -1", x.forged(0, -1), Tape.BAD);
        due.is("d 65521", x.forged(0, 65521), Tape.BAD);
        due.is("d 65520", x.forged(0, 65520), 0);
        x.sheet(0, 2, 100);
        x.write(1, 0, 0);
        due.is("check", x.check(1, 0, 0, 0, Tape.NONE), 1);
        int many = x.read(-1);
        x.forged(0, 3);
        due.is("forged leaves why", x.why(), 0);
        due.is("forged leaves read", x.read(-1), many);
        x.put(0, 10, 6);
        due.is("not of the latest ROUND", x.forged(0, 1), Tape.STATE);
        due.is("BAD ahead of STATE", x.forged(0, 0), Tape.BAD);
        x.round();
        due.is("of the latest ROUND", x.forged(0, 1), 0);
    }

    /** A SEAL s as left part may be told as 65521 - s: its square leaves the same rest. */
    private static void forgedTaken() {
        int seen = 0;
        for (int value = 0; value < 60; value++) {
            ProvenRows x = new ProvenRows();
            Tape.rows(x, 0, 10, value, 20, 6, 30, 7);
            x.round();
            Tape.plan(x, "probe 0 40;");
            int left = x.proof(0, 3);
            if (65521 - 2 * left < 1) {
                continue;
            }
            due.is("the other root of " + left, x.forged(0, 65521 - 2 * left), 1);
            seen++;
        }
        due.is("some were seen", seen > 10 ? 1 : 0, 1);
    }

    public static void main(String[] args) {
        takenAsTold();
        badNumbers();
        notEnough();
        pairs();
        places();
        rounds();
        oneBehindTheOther();
        forged();
        forgedTaken();
        due.end();
    }
}
