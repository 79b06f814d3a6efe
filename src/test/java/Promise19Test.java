/** Promise 19: read. */
public final class Promise19Test {
    private static final Due due = new Due("Promise19Test");

    /** "of i = -1 how many", "NONE: not so many": an ANSWER with numbers, and one with none. */
    private static void howMany() {
        ProvenRows x = Three.given("range 0 0 999;probe 0 15;sum 0 11 19;", Three.WHOLE);
        due.areAll("there was none", x::read);
        x.check(0, 0, 7, 0, 20);
        due.areAll("three ROWS", x::read, 10, 5, 20, 6, 30, 7);
        for (int i : new int[] {6, 7, 48, 600, Tape.MOST}) {
            due.is("read(" + i + ")", x.read(i), Tape.NONE);
        }
        x.check(1, 0, 7, 0, 20);
        due.areAll("no ROW", x::read);
        due.is("it was taken", x.why(), 0);
        x.check(2, 0, 7, 0, 20);
        due.areAll("a SUM of none", x::read, 0, 0);
    }

    /** "(0, if it was not, or there was none)": whichever WHY. */
    private static void notTaken() {
        int[] hidden = {5, 1, 0, Three.LEFT, 11, 1, 1, 30, 7, 1, 1000, 0};
        int[][] wrong = {Three.of(), Three.with(Three.WHOLE, 19, 1), Three.with(Three.WHOLE, 16, 8), hidden,
            Three.all(Three.WHOLE, Three.of(0))};
        for (int[] numbers : wrong) {
            ProvenRows x = Three.given("range 0 0 999;", Three.WHOLE);
            x.check(0, 0, 7, 0, 20);
            due.is("taken", x.read(-1), 6);
            Tape.fill(x, numbers);
            x.check(0, 0, 7, 0, numbers.length);
            due.areAll("not taken", x::read);
        }
        ProvenRows y = Three.given("join 0 1 0 999;", Three.all(Three.WHOLE, Three.WHOLE_1, Three.WHOLE_1));
        y.check(0, 0, 7, 0, 44);
        due.areAll("a PROBE is missing: nothing of those that were read", y::read);
    }

    /** "that the latest CHECK read": not that of TABLES as they are now. */
    private static void asItWasRead() {
        ProvenRows x = Three.given("sum 0 0 999;range 0 0 999;", Three.WHOLE);
        x.put(0, 10, 999);
        x.take(0, 20);
        x.check(0, 0, 7, 0, 20);
        due.areAll("as ROUND 0 has it", x::read, 3, 18);
        due.areAll("as it is now", i -> x.answer(0, i), 2, 1006);
        x.check(1, 0, 7, 0, 20);
        due.areAll("the latest", x::read, 10, 5, 20, 6, 30, 7);
        x.check(0, 0, 7, 0, 20);
        due.areAll("no sum of an earlier one in it", x::read, 3, 18);
    }

    /** What an earlier CHECK read of TABLE b, or added, is not in a later one: each behind each. */
    private static void eachBehindEach() {
        String plan = "range 0 0 999;sum 0 0 999;first 0 0 2;probe 0 20;join 0 1 0 999;merge 0 1 0 999;not 0 2 0 999;";
        int[][] want = {{10, 5, 20, 6, 30, 7}, {2, 18}, {10, 5, 20, 6}, {20, 6}, {20, 6, 60}, {20, 6, 60},
            {10, 5, 20, 6, 30, 7}};
        for (int first = 0; first < 7; first++) {
            for (int second = 0; second < 7; second++) {
                ProvenRows x = Three.planned(plan);
                x.sheet(0, 2, 100);
                x.write(first, 0, 0);
                x.check(first, 0, 0, 0, Tape.NONE);
                due.areAll("ACT " + first, x::read, want[first]);
                x.write(second, 0, 0);
                x.check(second, 0, 0, 0, Tape.NONE);
                due.areAll("ACT " + second + " behind ACT " + first, x::read, want[second]);
            }
        }
    }

    /** A check() that is refused, or in which something is found, leaves it; so does forged(). */
    private static void noCheck() {
        ProvenRows x = Three.given("range 0 0 19;sum 0 0 999;", Three.WHOLE);
        x.check(0, 0, 7, 0, 20);
        x.check(0, 0, 7, 0, -1);
        due.areAll("behind BAD", x::read, 10, 5);
        x.check(0, 0, 1, 0, 0);
        due.areAll("behind NULL", x::read, 10, 5);
        x.check(0, 0, 7, 1, 20);
        due.areAll("behind PLACE", x::read, 10, 5);
        x.forged(1, 1);
        due.areAll("behind forged()", x::read, 10, 5);
        x.put(0, 15, 0);
        x.forged(1, 1);
        x.round();
        x.drop(7);
        x.answer(1, 0);
        x.proof(1, 0);
        due.areAll("behind other calls", x::read, 10, 5);
    }

    /** The longest: KEY, VALUE, VALUE of 14 ROWS; and one with what is not SHOWN in its sum. */
    private static void longest() {
        ProvenRows x = new ProvenRows();
        int[] want = new int[42];
        for (int i = 0; i < 14; i++) {
            x.put(0, 71 * i, 100 + i);
            x.put(1, 71 * i, 200 + i);
            want[3 * i] = 71 * i;
            want[3 * i + 1] = 100 + i;
            want[3 * i + 2] = 200 + i;
        }
        x.round();
        Tape.plan(x, "join 0 1 0 999;merge 0 1 0 999;sum 0 0 999;sum 0 71 852;");
        x.sheet(0, 2, 600);
        for (int act = 0; act < 2; act++) {
            x.write(act, 0, 0);
            x.check(act, 0, 0, 0, Tape.NONE);
            due.areAll("ACT " + act, x::read, want);
        }
        x.write(2, 0, 0);
        x.check(2, 0, 0, 0, Tape.NONE);
        due.areAll("sum of all", x::read, 2, 1491);
        x.write(3, 0, 0);
        x.check(3, 0, 0, 0, Tape.NONE);
        due.areAll("sum without the ends", x::read, 2, 1278);
    }

    /** "BAD: i below -1", be there an ANSWER or none. */
    private static void bad() {
        for (int i : new int[] {-2, -3, Tape.NONE, Tape.LEAST}) {
            Twins.refused(due, "read(" + i + ")", x -> x.read(i), Tape.BAD);
            due.is("of a new object: read(" + i + ")", new ProvenRows().read(i), Tape.BAD);
        }
    }

    public static void main(String[] args) {
        howMany();
        notTaken();
        asItWasRead();
        eachBehindEach();
        noCheck();
        longest();
        bad();
        due.end();
    }
}
