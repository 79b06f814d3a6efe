/** Promise 7: take. */
public final class Promise07Test {
    private static final Due due = new Due("Promise07Test");

    /** "A ROW goes: its VALUE": the first, the last, one between; VALUES 0 and 999. */
    private static void itsValue() {
        ProvenRows x = new ProvenRows();
        Tape.rows(x, 1, 0, 999, 500, 9, 600, 0, 999, 8);
        due.is("KEY 0", x.take(1, 0), 999);
        due.is("SEAL without it", x.told(1, 1), new Leaves(500, 9, 600, 0, 999, 8).tableSeal());
        due.is("KEY 600, of VALUE 0", x.take(1, 600), 0);
        due.is("SEAL without it", x.told(1, 1), new Leaves(500, 9, 999, 8).tableSeal());
        due.is("KEY 999", x.take(1, 999), 8);
        due.is("SEAL without it", x.told(1, 1), new Leaves(500, 9).tableSeal());
        due.is("ROWS", x.told(1, 0), 1);
    }

    /** Empty again: the last ROW goes, the leaves that are always there stay. */
    private static void theLastRowOfAll() {
        ProvenRows x = new ProvenRows();
        x.put(0, 500, 9);
        due.is("the last of all", x.take(0, 500), 9);
        due.is("ROWS", x.told(0, 0), 0);
        due.is("as new", x.told(0, 1), new Leaves().tableSeal());
        due.is("none is left", x.take(0, 500), Tape.STATE);
        due.is("it may come again", x.put(0, 500, 1), 1);
    }

    /** From full to empty. */
    private static void allOfFourteen() {
        ProvenRows x = new ProvenRows();
        for (int i = 0; i < 14; i++) {
            x.put(2, 10 * i, 100 + i);
        }
        for (int i = 0; i < 14; i++) {
            int k = (5 * i + 3) % 14;
            due.is("take " + 10 * k, x.take(2, 10 * k), 100 + k);
            due.is("ROWS", x.told(2, 0), 13 - i);
            due.is("take it again", x.take(2, 10 * k), Tape.STATE);
        }
        due.is("as new", x.told(2, 1), new Leaves().tableSeal());
    }

    /** "STATE: there is none"; what another TABLE has is none of this one. */
    private static void thereIsNone() {
        for (int key : new int[] {0, 9, 11, 271, 999}) {
            Twins.refused(due, "take(0, " + key + ")", x -> x.take(0, key), Tape.STATE);
        }
        Twins.refused(due, "of an empty TABLE", x -> x.take(2, 10), Tape.STATE);
        Twins.refused(due, "a ROW of TABLE 0", x -> x.take(1, 10), Tape.STATE);
    }

    /** "BAD": KEYS -1 and 1000 are of leaves, but of no ROW. */
    private static void bad() {
        for (int table : Tape.outside(3)) {
            Twins.refused(due, "take(" + table + ", 10)", x -> x.take(table, 10), Tape.BAD);
        }
        for (int key : Tape.outside(1000)) {
            Twins.refused(due, "take(0, " + key + ")", x -> x.take(0, key), Tape.BAD);
            Twins.refused(due, "take(2, " + key + ")", x -> x.take(2, key), Tape.BAD);
        }
    }

    public static void main(String[] args) {
        itsValue();
        theLastRowOfAll();
        allOfFourteen();
        thereIsNone();
        bad();
        due.end();
    }
}
