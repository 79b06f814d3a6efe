import java.util.Arrays;

/** Promise 8: told. */
public final class Promise08Test {
    private static final Due due = new Due("Promise08Test");
    private static final int[] KEYS = {0, 1, 77, 154, 231, 308, 385, 462, 539, 616, 693, 770, 998, 999};

    private static void toldIs(String name, ProvenRows x, int table, Leaves want) {
        int m = want.size();
        due.is(name + ": ROWS", x.told(table, 0), m - 2);
        due.is(name + ": SEAL", x.told(table, 1), want.tableSeal());
        due.is(name + ": SEAL of the TREE", x.told(table, 2), want.seal(0, m));
        due.is(name + ": SUM", x.told(table, 3), want.sum(0, m));
    }

    /** Two leaves, and five, told by hand: three of them left, two of these left again. */
    private static void byHand() {
        ProvenRows x = new ProvenRows();
        int two = Leaves.fork(Three.FIRST, 0, Three.LAST, 0);
        due.is("TREE of two", x.told(0, 2), two);
        due.is("TABLE of two", x.told(0, 1), Leaves.j(Leaves.j(two, 0), 2));
        Tape.rows(x, 0, 30, 7, 10, 5, 20, 6);
        int five = Leaves.fork(Three.LEFT, 11, Three.RIGHT, 7);
        due.is("TREE of five", x.told(0, 2), five);
        due.is("TABLE of five", x.told(0, 1), Leaves.j(Leaves.j(five, 18), 5));
        due.is("SUM of five", x.told(0, 3), 18);
    }

    /** "the first (m and 1, by 2, cut) of them": every m from 2 to 16, "as it is now" behind each ROW. */
    private static void everySize() {
        for (int most : new int[] {1, 999}) {
            ProvenRows x = new ProvenRows();
            int[] rows = {};
            toldIs("m 2", x, 2, new Leaves(rows));
            for (int i = 0; i < KEYS.length; i++) {
                int value = most - i % 2;
                x.put(2, KEYS[i], value);
                rows = Arrays.copyOf(rows, rows.length + 2);
                rows[2 * i] = KEYS[i];
                rows[2 * i + 1] = value;
                toldIs("m " + (i + 3), x, 2, new Leaves(rows));
            }
            due.is("other TABLES are as they were", x.told(1, 1), new Leaves().tableSeal());
        }
    }

    /** The greatest SUM that there is: 14 VALUES of 999. */
    private static void greatestSum() {
        ProvenRows x = new ProvenRows();
        for (int key : KEYS) {
            x.put(1, key, 999);
        }
        due.is("SUM", x.told(1, 3), 13986);
    }

    /** KEYS and VALUES that end the ranges: squares and rests stay whole. */
    private static void ends() {
        int[][] ends = {{0, 0}, {0, 999}, {999, 0}, {999, 999}};
        for (int[] end : ends) {
            ProvenRows x = new ProvenRows();
            x.put(0, end[0], end[1]);
            toldIs("KEY " + end[0] + ", VALUE " + end[1], x, 0, new Leaves(end[0], end[1]));
        }
    }

    /** "BAD". */
    private static void bad() {
        for (int what = 0; what < 4; what++) {
            int each = what;
            for (int table : Tape.outside(3)) {
                Twins.refused(due, "told(" + table + ", " + what + ")", x -> x.told(table, each), Tape.BAD);
            }
        }
        for (int what : Tape.outside(4)) {
            Twins.refused(due, "told(0, " + what + ")", x -> x.told(0, what), Tape.BAD);
        }
    }

    public static void main(String[] args) {
        byHand();
        everySize();
        greatestSum();
        ends();
        bad();
        due.end();
    }
}
