import java.util.Arrays;

/** Three TABLES that can be overlooked: leaves -1 10 20 | 30 1000 in TABLE 0, -1 20 | 1000 in 1, -1 | 1000 in 2. */
final class Three {
    static final int FIRST = Leaves.leaf(-1, 0), LAST = Leaves.leaf(1000, 0);
    static final int TEN = Leaves.leaf(10, 5), TWENTY = Leaves.leaf(20, 6), THIRTY = Leaves.leaf(30, 7);
    static final int AHEAD = Leaves.fork(FIRST, 0, TEN, 5);
    static final int LEFT = Leaves.fork(AHEAD, 5, TWENTY, 6);
    static final int RIGHT = Leaves.fork(THIRTY, 7, LAST, 0);

    /** All leaves of TABLES 0, 1, 2. */
    static final int[] WHOLE = {5, 1, 1, 1, 1, -1, 0, 1, 10, 5, 1, 20, 6, 1, 1, 30, 7, 1, 1000, 0};
    static final int[] WHOLE_1 = {3, 1, 1, 1, -1, 0, 1, 20, 60, 1, 1000, 0};
    static final int[] WHOLE_2 = {2, 1, 1, -1, 0, 1, 1000, 0};

    private Three() {
    }

    /** With ROUND 0, and the ACTS of a text. */
    static ProvenRows planned(String plan) {
        ProvenRows x = new ProvenRows();
        Tape.rows(x, 0, 10, 5, 20, 6, 30, 7);
        Tape.rows(x, 1, 20, 60);
        x.round();
        Tape.plan(x, plan);
        return x;
    }

    /** With numbers in SHEET 7, too. */
    static ProvenRows given(String plan, int... numbers) {
        ProvenRows x = planned(plan);
        Tape.fill(x, numbers);
        return x;
    }

    static int[] of(int... numbers) {
        return numbers;
    }

    static int[] with(int[] numbers, int place, int number) {
        int[] changed = numbers.clone();
        changed[place] = number;
        return changed;
    }

    static int[] all(int[]... parts) {
        return Arrays.stream(parts).flatMapToInt(Arrays::stream).toArray();
    }
}
