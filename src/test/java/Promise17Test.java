import java.util.Arrays;

/** Promise 17: check. */
public final class Promise17Test {
    private static final Due due = new Due("Promise17Test");
    private static final String RANGE = "range 0 0 999;";
    /** Of TABLE 0 the left part is not SHOWN. */
    private static final int[] HIDDEN = {5, 1, 0, Three.LEFT, 11, 1, 1, 30, 7, 1, 1000, 0};
    /** Of TABLE 1: PROBES of 10, 20, 30. */
    private static final int[] MISS_10 = {3, 1, 1, 1, -1, 0, 1, 20, 60, 0, Three.LAST, 0};
    private static final int[] HIT_20 = Three.WHOLE_1;
    private static final int[] MISS_30 = {3, 1, 1, 0, Three.FIRST, 0, 1, 20, 60, 1, 1000, 0};

    private static void taken(String name, String plan, int[] numbers, int... want) {
        ProvenRows x = Three.given(plan, numbers);
        due.is(name + ": check", x.check(0, 0, 7, 0, numbers.length), 1);
        due.is(name + ": why", x.why(), 0);
        due.areAll(name + ": read", x::read, want);
    }

    private static void refused(String name, String plan, int[] numbers, int wrong, int why) {
        ProvenRows x = Three.given(plan, numbers);
        due.is(name + ": check", x.check(0, 0, 7, 0, numbers.length), -1000200 - wrong);
        due.is(name + ": why", x.why(), why);
        due.is(name + ": status", x.status(), 0);
        due.areAll(name + ": read", x::read);
    }

    /** One number of WHOLE, or of HIDDEN, is another. */
    private static void wholeWith(int place, int number, int wrong, int why) {
        refused("WHOLE with " + number + " at " + place, RANGE, Three.with(Three.WHOLE, place, number), wrong, why);
    }

    private static void hiddenWith(int place, int number, int wrong, int why) {
        refused("HIDDEN with " + number + " at " + place, "probe 0 40;", Three.with(HIDDEN, place, number), wrong, why);
    }

    /** "m 2 to 16". */
    private static void m() {
        for (int number : new int[] {1, 0, -1, 17, Tape.LEAST, Tape.MOST}) {
            wholeWith(0, number, 0, 1);
        }
        wholeWith(0, 2, 3, 1);
        wholeWith(0, 16, 5, 1);
        wholeWith(0, 4, 4, 1);
        taken("m 2", "range 2 0 999;", Three.WHOLE_2);
    }

    /** "what each TREE begins with 0 or 1": the whole, a part, a leaf. */
    private static void beginnings() {
        for (int place : new int[] {1, 2, 3, 4, 7, 10, 13, 14, 17}) {
            for (int number : new int[] {2, -1, Tape.LEAST, Tape.MOST}) {
                wholeWith(place, number, place, 1);
            }
        }
        wholeWith(4, 0, 5, 1);
        hiddenWith(2, 1, 3, 1);
    }

    /** "SEALS 0 to 65520, SUMS 0 to 14000": the ends hold, but make another SEAL. */
    private static void sealsAndSums() {
        for (int number : new int[] {-1, 65521, Tape.LEAST, Tape.MOST}) {
            hiddenWith(3, number, 3, 1);
        }
        hiddenWith(3, 0, 12, 2);
        hiddenWith(3, 65520, 12, 2);
        for (int number : new int[] {-1, 14001, Tape.LEAST, Tape.MOST}) {
            hiddenWith(4, number, 4, 1);
        }
        hiddenWith(4, 0, 12, 2);
        hiddenWith(4, 14000, 12, 2);
        hiddenWith(4, 10, 12, 2);
    }

    /** A SEAL that is 0, or 65520, and right is taken: of a part that is not SHOWN, of a TABLE. */
    private static void sealsAtTheEnds() {
        int[][] ends = {{48, 534, 0}, {71, 495, 65520}};
        for (int[] end : ends) {
            ProvenRows x = new ProvenRows();
            Tape.rows(x, 0, end[0], end[1], 900, 1);
            x.round();
            Tape.plan(x, "probe 0 950;");
            due.is("SEAL of the left part", x.proof(0, 3), end[2]);
            Tape.fill(x, 4, 1, 0, end[2], end[1], 1, 1, 900, 1, 1, 1000, 0);
            due.is("taken", x.check(0, 0, 7, 0, 12), 1);
            x.set(7, 3, end[2] == 0 ? -1 : 65521);
            due.is("beside it", x.check(0, 0, 7, 0, 12), -1000203);
        }
        ProvenRows x = new ProvenRows();
        x.put(0, 37, 480);
        x.round();
        Tape.plan(x, "range 0 0 999;");
        due.is("SEAL of the TABLE", x.seal(0, 0), 0);
        Tape.fill(x, 3, 1, 1, 1, -1, 0, 1, 37, 480, 1, 1000, 0);
        due.is("taken", x.check(0, 0, 7, 0, 12), 1);
    }

    /** "of the first of the m leaves KEY -1, VALUE 0, of the last one KEY 1000, VALUE 0". */
    private static void firstAndLastLeaf() {
        for (int key : new int[] {0, -2, 1000, Tape.LEAST}) {
            wholeWith(5, key, 5, 1);
        }
        for (int value : new int[] {1, -1, 999}) {
            wholeWith(6, value, 6, 1);
            wholeWith(19, value, 19, 1);
        }
        for (int key : new int[] {999, 1001, -1, Tape.MOST}) {
            wholeWith(18, key, 18, 1);
        }
    }

    /** "of others a KEY 0 to 999 above that of the leaf that was SHOWN last in this PROOF". */
    private static void keys() {
        for (int key : new int[] {-1, 1000, Tape.LEAST, Tape.MOST}) {
            wholeWith(8, key, 8, 1);
        }
        wholeWith(8, 0, 20, 2);
        wholeWith(8, 19, 20, 2);
        wholeWith(8, 20, 11, 1);
        for (int key : new int[] {10, 9, 1000}) {
            wholeWith(11, key, 11, 1);
        }
        wholeWith(11, 11, 20, 2);
        for (int key : new int[] {20, 19, 1000}) {
            wholeWith(15, key, 15, 1);
        }
        wholeWith(15, 21, 20, 2);
        wholeWith(15, 999, 20, 2);
        hiddenWith(7, 0, 12, 2);
        hiddenWith(7, -1, 7, 1);
    }

    /** In each PROOF anew: the KEYS of the second one may be below the last of the first one. */
    private static void keysBeginAnew() {
        taken("KEY 20 behind KEY 30", "merge 0 1 0 999;", Three.all(Three.WHOLE, HIT_20), 20, 6, 60);
        int[] begun = {3, 1, 0, 5, 5, 1, 1000, 0};
        refused("0 in the second PROOF", "merge 0 1 0 999;",
            Three.all(Three.WHOLE, Three.with(MISS_30, 7, 0)), 32, 2);
        refused("nothing SHOWN ahead of KEY 1000", "merge 0 1 0 999;", Three.all(Three.WHOLE, begun), 28, 2);
    }

    /** "a VALUE 0 to 999". */
    private static void values() {
        for (int place : new int[] {9, 12, 16}) {
            for (int value : new int[] {-1, 1000, Tape.LEAST, Tape.MOST}) {
                wholeWith(place, value, place, 1);
            }
            wholeWith(place, 0, 20, 2);
            wholeWith(place, 999, 20, 2);
        }
    }

    /** "where a number is missing it is n". */
    private static void missingNumbers() {
        for (int n = 0; n < Three.WHOLE.length; n++) {
            refused("cut at " + n, RANGE, Arrays.copyOf(Three.WHOLE, n), n, 1);
        }
        for (int n = 0; n < HIDDEN.length; n++) {
            refused("HIDDEN cut at " + n, "probe 0 40;", Arrays.copyOf(HIDDEN, n), n, 1);
        }
        int[] join = Three.all(Three.WHOLE, MISS_10, HIT_20, MISS_30);
        for (int n = 20; n < join.length; n++) {
            refused("join cut at " + n, "join 0 1 0 999;", Arrays.copyOf(join, n), n, 1);
            refused("not cut at " + n, "not 0 1 0 999;", Arrays.copyOf(join, n), n, 1);
        }
        refused("no second PROOF", "merge 0 1 0 999;", Three.WHOLE, 20, 1);
        refused("what is wrong ahead of what is missing", RANGE, Arrays.copyOf(Three.with(Three.WHOLE, 8, -1), 15), 8, 1);
    }

    /** "behind the last PROOF there is none (WHY 1)". */
    private static void behindTheLastProof() {
        for (int number : new int[] {0, 1, 5, -1, 17}) {
            refused(number + " behind it", RANGE, Three.all(Three.WHOLE, Three.of(number)), 20, 1);
        }
        refused("a PROOF more", RANGE, Three.all(Three.WHOLE, Three.WHOLE), 20, 1);
        refused("a third PROOF", "merge 0 1 0 999;", Three.all(Three.WHOLE, HIT_20, HIT_20), 32, 1);
        refused("a PROBE more", "join 0 1 0 999;", Three.all(Three.WHOLE, MISS_10, HIT_20, MISS_30, MISS_30), 56, 1);
        refused("a PROBE where there is no ROW", "join 2 1 0 999;", Three.all(Three.WHOLE_2, HIT_20), 8, 1);
        refused("the SEAL ahead of it", RANGE, Three.all(Three.with(Three.WHOLE, 9, 6), Three.WHOLE), 20, 2);
        refused("too little SHOWN ahead of it", RANGE, Three.all(HIDDEN, Three.of(0)), 12, 3);
    }

    /** "if it does not make the SEAL of its TABLE, WRONG is the place behind it (WHY 2)". */
    private static void anotherSeal() {
        refused("of TABLE 1", RANGE, Three.WHOLE_1, 12, 2);
        refused("of TABLE 2", RANGE, Three.WHOLE_2, 8, 2);
        refused("a ROW left out", RANGE, new Leaves(10, 5, 30, 7).proof(0, 3), 16, 2);
        refused("a ROW put in", RANGE, new Leaves(10, 5, 15, 0, 20, 6, 30, 7).proof(0, 5), 24, 2);
        refused("a VALUE moved", RANGE, new Leaves(10, 6, 20, 5, 30, 7).proof(0, 4), 20, 2);
        refused("the first PROOF", "join 0 1 0 999;",
            Three.all(Three.with(Three.WHOLE, 9, 6), MISS_10, HIT_20, MISS_30), 20, 2);
        refused("a PROBE of TABLE 0", "join 0 1 0 999;", Three.all(Three.WHOLE, Three.WHOLE, HIT_20, MISS_30), 40, 2);
        refused("the second PROBE", "join 0 1 0 999;",
            Three.all(Three.WHOLE, MISS_10, Three.with(HIT_20, 8, 61), MISS_30), 44, 2);
        refused("the last PROBE", "not 0 1 0 999;",
            Three.all(Three.WHOLE, MISS_10, HIT_20, Three.with(MISS_30, 8, 61)), 56, 2);
        refused("the second of a MERGE", "merge 0 1 0 999;", Three.all(Three.WHOLE, Three.with(HIT_20, 7, 21)), 32, 2);
        refused("of a JOIN with itself", "join 0 0 20 20;", Three.all(Three.WHOLE, HIT_20), 32, 2);
    }

    /** "likewise, if it does not show enough (WHY 3)": the SEAL is held first. */
    private static void sealAheadOfEnough() {
        int top = Leaves.fork(Three.LEFT, 11, Three.RIGHT, 7);
        for (String plan : new String[] {RANGE, "sum 0 0 999;", "first 0 0 1;", "probe 0 10;", "join 0 1 0 9;"}) {
            refused("nothing SHOWN: " + plan, plan, Three.of(5, 0, top, 18), 4, 3);
            refused("nothing SHOWN, another SUM: " + plan, plan, Three.of(5, 0, top, 19), 4, 2);
        }
        refused("the first of two", "merge 0 1 0 999;", Three.all(HIDDEN, HIT_20), 12, 3);
        refused("the second of two", "merge 0 1 0 999;", Three.all(Three.WHOLE, MISS_10), 32, 3);
        refused("PROBES in another order", "join 0 1 0 999;", Three.all(Three.WHOLE, MISS_10, MISS_30, HIT_20), 44, 3);
        refused("a PROBE too narrow", "join 0 1 0 999;", Three.all(Three.WHOLE, MISS_10, MISS_10, MISS_30), 44, 3);
    }

    /** "both must be there": x, y; of FIRST x alone. */
    private static void xAndY() {
        int[] noAhead = {5, 1, 1, 0, Three.AHEAD, 5, 1, 20, 6, 1, 1, 30, 7, 1, 1000, 0};
        for (String plan : new String[] {"range 0 20 20;", "first 0 20 1;", "sum 0 20 20;", "probe 0 20;", "range 0 0 20;"}) {
            refused("no x: " + plan, plan, noAhead, 16, 3);
        }
        taken("x is 20", "range 0 21 999;", noAhead, 30, 7);
        taken("x is 20: first", "first 0 21 1;", noAhead, 30, 7);
        int[] noBehind = {5, 1, 1, 1, 1, -1, 0, 1, 10, 5, 1, 20, 6, 0, Three.RIGHT, 7};
        for (String plan : new String[] {"range 0 20 20;", "sum 0 20 20;", "probe 0 20;", "range 0 10 20;"}) {
            refused("no y: " + plan, plan, noBehind, 16, 3);
        }
        taken("y is 20", "range 0 0 19;", noBehind, 10, 5);
        taken("no y: first", "first 0 0 2;", noBehind, 10, 5, 20, 6);
        refused("no y: first of more", "first 0 0 3;", noBehind, 16, 3);
    }

    /** "RANGE, PROBE: all leaves between x and y are SHOWN"; more may be. */
    private static void enoughOfRange() {
        int[] noMiddle = {5, 1, 1, 1, 1, -1, 0, 1, 10, 5, 0, Three.TWENTY, 6, 1, 1, 30, 7, 1, 1000, 0};
        refused("20 is not", RANGE, noMiddle, 20, 3);
        refused("20 is not: probe", "probe 0 20;", noMiddle, 20, 3);
        refused("20 is not: a probe beside it", "probe 0 15;", noMiddle, 20, 3);
        refused("20 is not: x is 10", "range 0 11 29;", noMiddle, 20, 3);
        taken("20 is not, behind y", "range 0 0 9;", noMiddle);
        taken("20 is not, ahead of x", "range 0 31 999;", noMiddle);
        taken("all are", RANGE, Three.WHOLE, 10, 5, 20, 6, 30, 7);
        taken("more are", "range 0 11 29;", Three.WHOLE, 20, 6);
        taken("more are: none between", "range 0 11 19;", Three.WHOLE);
        taken("more are: probe", "probe 0 30;", Three.WHOLE, 30, 7);
        taken("more are: probe of none", "probe 0 15;", Three.WHOLE);
        taken("neighbours", "probe 0 40;", HIDDEN);
        taken("low is a KEY", "range 0 30 30;", Three.WHOLE, 30, 7);
    }

    /** "SUM: .. the first stands beside x, the last beside y; if none is, x and y stand beside one another". */
    private static void enoughOfSum() {
        int[] noMiddle = {5, 1, 1, 1, 1, -1, 0, 1, 10, 5, 0, Three.TWENTY, 6, 1, 1, 30, 7, 1, 1000, 0};
        taken("between them 20 is not", "sum 0 0 999;", noMiddle, 2, 18);
        refused("20 stands beside x", "sum 0 11 999;", noMiddle, 20, 3);
        refused("20 stands beside y", "sum 0 0 29;", noMiddle, 20, 3);
        refused("none, x and y apart", "sum 0 11 29;", noMiddle, 20, 3);
        refused("none, x and y apart: 20 itself", "sum 0 20 20;", noMiddle, 20, 3);
        int[] noFirst = {5, 1, 1, 1, 1, -1, 0, 0, Three.TEN, 5, 1, 20, 6, 1, 1, 30, 7, 1, 1000, 0};
        refused("the first is not beside x", "sum 0 0 999;", noFirst, 20, 3);
        taken("what is ahead of x is not added", "sum 0 21 999;", noFirst, 1, 7);
        int[] noLast = {5, 1, 1, 1, 1, -1, 0, 1, 10, 5, 1, 20, 6, 1, 0, Three.THIRTY, 7, 1, 1000, 0};
        refused("the last is not beside y", "sum 0 0 999;", noLast, 20, 3);
        taken("what is behind y is not added", "sum 0 0 19;", noLast, 1, 5);
        taken("none, neighbours", "sum 0 11 19;", Three.WHOLE, 0, 0);
        taken("none, neighbours at the end", "sum 0 31 999;", HIDDEN, 0, 0);
        taken("more are SHOWN", "sum 0 0 999;", Three.WHOLE, 3, 18);
        taken("one", "sum 0 20 20;", Three.WHOLE, 1, 6);
    }

    /** "FIRST: (x alone) the next k leaves behind x, or all that there are, are SHOWN". */
    private static void enoughOfFirst() {
        int[] noMiddle = {5, 1, 1, 1, 1, -1, 0, 1, 10, 5, 0, Three.TWENTY, 6, 1, 1, 30, 7, 1, 1000, 0};
        taken("ahead of what is not", "first 0 0 1;", noMiddle, 10, 5);
        refused("the second is not", "first 0 0 2;", noMiddle, 20, 3);
        refused("the second of three is not", "first 0 0 3;", noMiddle, 20, 3);
        refused("the first is not", "first 0 11 1;", noMiddle, 20, 3);
        taken("behind what is not", "first 0 31 1;", noMiddle);
        taken("all that there are", "first 0 15 14;", Three.WHOLE, 20, 6, 30, 7);
        taken("KEY 1000 is the last of them", "first 0 15 3;", Three.WHOLE, 20, 6, 30, 7);
        taken("more are SHOWN", "first 0 15 1;", Three.WHOLE, 20, 6);
        taken("none but KEY 1000", "first 0 31 9;", HIDDEN);
        int[] noEnd = {5, 1, 1, 0, Three.AHEAD, 5, 1, 20, 6, 1, 1, 30, 7, 0, Three.LAST, 0};
        taken("KEY 1000 is not, none too many", "first 0 21 1;", noEnd, 30, 7);
        refused("KEY 1000 is not, one of them", "first 0 21 2;", noEnd, 16, 3);
        refused("KEY 1000 is not, all that there are", "first 0 21 14;", noEnd, 16, 3);
    }

    /** "By ROWS of its first PROOF a JOIN, a NOT has its PROBES": none, one, each in its order. */
    private static void probesByRows() {
        int[] join = Three.all(Three.WHOLE, MISS_10, HIT_20, MISS_30);
        taken("join", "join 0 1 0 999;", join, 20, 6, 60);
        taken("not", "not 0 1 0 999;", join, 10, 5, 30, 7);
        taken("PROBES that show more", "join 0 1 0 999;", Three.all(Three.WHOLE, HIT_20, HIT_20, HIT_20), 20, 6, 60);
        taken("a first PROOF that shows more", "join 0 1 11 29;", Three.all(Three.WHOLE, HIT_20), 20, 6, 60);
        taken("no ROW", "join 0 1 11 19;", Three.WHOLE);
        taken("an empty TABLE a", "join 2 1 0 999;", Three.WHOLE_2);
        taken("an empty TABLE b", "not 0 2 20 20;", Three.all(Three.WHOLE, Three.WHOLE_2), 20, 6);
        taken("with itself", "join 0 0 20 30;", Three.all(Three.WHOLE, Three.WHOLE, Three.WHOLE), 20, 6, 6, 30, 7, 7);
        taken("merge with itself", "merge 0 0 20 30;", Three.all(Three.WHOLE, Three.WHOLE), 20, 6, 6, 30, 7, 7);
        taken("merge without ROWS", "merge 2 2 0 999;", Three.all(Three.WHOLE_2, Three.WHOLE_2));
    }

    /** A fork that begins with 1 though nothing below it is SHOWN: no rule is against it. */
    private static void openedWithoutNeed() {
        taken("a fork told by its parts", "first 0 20 1;",
            Three.of(5, 1, 1, 1, 0, Three.FIRST, 0, 1, 10, 5, 1, 20, 6, 1, 0, Three.THIRTY, 7, 0, Three.LAST, 0), 20, 6);
    }

    /** m 16: the widest PROOFS are taken, and each of their numbers counts. */
    private static void sixteenLeaves() {
        int[] rows = new int[28];
        for (int i = 0; i < 14; i++) {
            rows[2 * i] = 71 * i;
            rows[2 * i + 1] = 999;
        }
        ProvenRows x = new ProvenRows();
        Tape.rows(x, 0, rows);
        x.round();
        Tape.plan(x, "range 0 0 999;sum 0 0 999;first 0 0 14;merge 0 0 0 999;join 0 0 0 999;");
        x.sheet(0, 2, 600);
        int[] words = {64, 32, 64, 128};
        for (int act = 0; act < 5; act++) {
            int n = x.write(act, 0, 0);
            due.is("WORDS of ACT " + act, n, act < 4 ? words[act] : x.proof(4, -1));
            due.is("ACT " + act, x.check(act, 0, 0, 0, n), 1);
        }
        x.write(1, 0, 0);
        x.check(1, 0, 0, 0, 32);
        due.areAll("the greatest sum", x::read, 2, 13986);
        x.write(0, 0, 0);
        for (int k = 0; k < 64; k++) {
            int number = x.proof(0, k);
            x.set(0, k, number + 1);
            due.isTrue("number " + k + " more by 1", x.check(0, 0, 0, 0, 64) < -1000199);
            x.set(0, k, number);
        }
    }

    /** "n ITEMS (0 to 600; NONE: as many as WORDS of the ACT are now)". */
    private static void howManyItems() {
        ProvenRows x = Three.given(RANGE, Three.WHOLE);
        x.sheet(0, 2, 600);
        x.copy(7, 0, 0, 0, 20);
        due.is("NONE", x.check(0, 0, 7, 0, Tape.NONE), 1);
        due.is("none", x.check(0, 0, 7, 0, 0), -1000200);
        due.is("none, at the end", x.check(0, 0, 7, 20, 0), -1000200);
        due.is("600", x.check(0, 0, 0, 0, 600), -1000220);
        due.is("status()", x.status(), 0);
        x.take(0, 30);
        due.is("NONE, WORDS are fewer now", x.check(0, 0, 7, 0, Tape.NONE), -1000216);
        due.is("a number is missing", x.why(), 1);
        Tape.rows(x, 0, 30, 7, 40, 8);
        due.is("NONE, WORDS are more now", x.check(0, 0, 0, 0, Tape.NONE), -1000220);
        due.is("there is one too many", x.why(), 1);
        due.is("NONE, WORDS are more than the ITEMS", x.check(0, 0, 7, 0, Tape.NONE), Tape.PLACE);
    }

    /** "of a SHEET from i on": WRONG is told from there on, of whichever LANE. */
    private static void fromIOn() {
        ProvenRows x = Three.planned("range 2 0 9;");
        Tape.fillSheet(x, 0, 1, Three.all(Three.of(9, 9), Three.WHOLE_2, Three.of(9)));
        due.is("shorts, from 2 on", x.check(0, 0, 0, 2, 8), 1);
        due.is("from 3 on", x.check(0, 0, 0, 3, 8), -1000200);
        x.set(0, 9, 3);
        due.is("the last number", x.check(0, 0, 0, 2, 8), -1000207);
        Tape.fillSheet(x, 1, 0, 2, 1, 1, -1, 0, 1, 120);
        due.is("bytes have a sign, too", x.check(0, 0, 1, 0, 7), -1000206);
        Tape.fillSheet(x, 2, 1, 2, 0, 40000, 0);
        due.is("40000 is below 0 in shorts", x.check(0, 0, 2, 0, 4), -1000202);
    }

    /** For a ROUND: that one, be it not the latest; TABLES as they are now do not count. */
    private static void ofThatRound() {
        ProvenRows x = Three.given(RANGE, Three.WHOLE);
        x.put(0, 20, 7);
        x.round();
        x.take(0, 20);
        due.is("as it was", x.check(0, 0, 7, 0, 20), 1);
        due.is("not as it was later", x.check(0, 1, 7, 0, 20), -1000220);
        x.set(7, 12, 7);
        due.is("as it was later", x.check(0, 1, 7, 0, 20), 1);
        due.areAll("read", x::read, 10, 5, 20, 7, 30, 7);
        due.is("not as it was", x.check(0, 0, 7, 0, 20), -1000220);
        ProvenRows y = Three.given(RANGE, Three.WHOLE);
        for (int round = 1; round < 20; round++) {
            y.round();
        }
        due.is("the last of 20", y.check(0, 19, 7, 0, 20), 1);
        due.is("a 21st", y.check(0, 20, 7, 0, 20), Tape.BAD);
    }

    /** "BAD: ACT, ROUND, SHEET, n", ahead of what would be found. In Twins there are eight ACTS, two ROUNDS. */
    private static void bad() {
        for (int act : Tape.outside(8)) {
            Twins.refused(due, "ACT " + act, x -> x.check(act, 0, 0, 0, 8), Tape.BAD);
            Twins.refused(due, "ACT " + act + ", missing", x -> x.check(act, 0, 7, 0, 8), Tape.BAD);
        }
        for (int round : Tape.outside(2)) {
            Twins.refused(due, "ROUND " + round, x -> x.check(0, round, 0, 0, 8), Tape.BAD);
            Twins.refused(due, "ROUND " + round + ", missing", x -> x.check(0, round, 7, 0, 8), Tape.BAD);
        }
        for (int sheet : Tape.outside(8)) {
            Twins.refused(due, "SHEET " + sheet, x -> x.check(0, 0, sheet, 0, 8), Tape.BAD);
        }
        for (int n : new int[] {-1, 601, Tape.NONE - 1, Tape.NONE + 1, Tape.LEAST, Tape.MOST}) {
            Twins.refused(due, "n " + n, x -> x.check(0, 0, 0, 0, n), Tape.BAD);
            Twins.refused(due, "n " + n + ", missing", x -> x.check(0, 0, 7, 0, n), Tape.BAD);
            Twins.refused(due, "n " + n + ", no such place", x -> x.check(0, 0, 0, -1, n), Tape.BAD);
        }
        ProvenRows x = new ProvenRows();
        x.sheet(0, 2, 8);
        due.is("no ACT at all", x.check(0, 0, 0, 0, 0), Tape.BAD);
        Tape.plan(x, RANGE);
        due.is("no ROUND at all", x.check(0, 0, 0, 0, 0), Tape.BAD);
    }

    /** "NULL; PLACE". In Twins SHEET 0 has 100 ITEMS, SHEET 1 eight, SHEET 2 none. */
    private static void found() {
        Twins.refused(due, "missing", x -> x.check(0, 0, 7, 0, 8), Tape.NULL);
        Twins.refused(due, "missing, NONE", x -> x.check(0, 0, 7, 0, Tape.NONE), Tape.NULL);
        Twins.refused(due, "missing, no such place", x -> x.check(0, 0, 7, -1, 8), Tape.NULL);
        for (int i : new int[] {-1, 93, 100, 101, Tape.LEAST, Tape.MOST}) {
            Twins.refused(due, "i " + i, x -> x.check(0, 0, 0, i, 8), Tape.PLACE);
        }
        Twins.refused(due, "none, below 0", x -> x.check(0, 0, 0, -1, 0), Tape.PLACE);
        Twins.refused(due, "none, beyond the end", x -> x.check(0, 0, 0, 101, 0), Tape.PLACE);
        Twins.refused(due, "600 of 100", x -> x.check(0, 0, 0, 0, 600), Tape.PLACE);
        Twins.refused(due, "i and n wrap around", x -> x.check(0, 0, 0, Tape.MOST, 600), Tape.PLACE);
        Twins.refused(due, "NONE, one too far", x -> x.check(7, 0, 1, 1, Tape.NONE), Tape.PLACE);
        Twins.refused(due, "one of none", x -> x.check(7, 0, 2, 0, 1), Tape.PLACE);
    }

    public static void main(String[] args) {
        m();
        beginnings();
        sealsAndSums();
        sealsAtTheEnds();
        firstAndLastLeaf();
        keys();
        keysBeginAnew();
        values();
        missingNumbers();
        behindTheLastProof();
        anotherSeal();
        sealAheadOfEnough();
        xAndY();
        enoughOfRange();
        enoughOfSum();
        enoughOfFirst();
        probesByRows();
        openedWithoutNeed();
        sixteenLeaves();
        howManyItems();
        fromIOn();
        ofThatRound();
        bad();
        found();
        due.end();
    }
}
