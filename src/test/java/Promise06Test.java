/** Promise 6: put. */
public final class Promise06Test {
    private static final Due due = new Due("Promise06Test");

    /** "(it comes, if there is none): how many ROWS there are": of that TABLE, up to "14 at most". */
    private static void upToFourteen() {
        ProvenRows x = new ProvenRows();
        for (int table = 0; table < 3; table++) {
            for (int i = 0; i < 14; i++) {
                due.is("ROW " + i + " of TABLE " + table, x.put(table, 999 - 71 * i, i), i + 1);
            }
        }
        due.is("ROWS of all TABLES", x.count(1), 42);
    }

    /** "FULL: a 15th". In Twins TABLE 0 is full: KEYS 10, 30, .. 270. */
    private static void fifteenth() {
        for (int key : new int[] {0, 11, 271, 999}) {
            Twins.refused(due, "put(0, " + key + ", 1)", x -> x.put(0, key, 1), Tape.FULL);
        }
        ProvenRows x = new ProvenRows();
        for (int i = 0; i < 14; i++) {
            x.put(0, i, i);
        }
        due.is("a 15th", x.put(0, 14, 1), Tape.FULL);
        due.is("one that is there", x.put(0, 13, 999), 14);
        due.is("its VALUE", x.told(0, 3), 78 + 999);
        due.is("of another TABLE", x.put(1, 14, 1), 1);
        x.take(0, 6);
        due.is("a 14th again", x.put(0, 14, 1), 14);
        due.is("the one that went", x.put(0, 6, 1), Tape.FULL);
        due.is("status()", x.status(), 0);
    }

    /** "TABLES 0 .. 2". */
    private static void badTable() {
        for (int table : Tape.outside(3)) {
            Twins.refused(due, "put(" + table + ", 5, 5)", x -> x.put(table, 5, 5), Tape.BAD);
        }
    }

    /** "a KEY (0 to 999": those of the leaves that are always there are none. */
    private static void keys() {
        for (int key : Tape.outside(1000)) {
            Twins.refused(due, "put(2, " + key + ", 5)", x -> x.put(2, key, 5), Tape.BAD);
        }
        ProvenRows x = new ProvenRows();
        due.is("KEY 0", x.put(0, 0, 5), 1);
        due.is("KEY 999", x.put(0, 999, 6), 2);
        due.is("SEAL", x.told(0, 1), new Leaves(0, 5, 999, 6).tableSeal());
    }

    /** "a VALUE (0 to 999)". */
    private static void values() {
        for (int value : Tape.outside(1000)) {
            Twins.refused(due, "put(2, 5, " + value + ")", x -> x.put(2, 5, value), Tape.BAD);
            Twins.refused(due, "put(0, 10, " + value + ") of one there", x -> x.put(0, 10, value), Tape.BAD);
        }
        ProvenRows x = new ProvenRows();
        due.is("VALUE 0", x.put(0, 5, 0), 1);
        due.is("VALUE 999", x.put(0, 6, 999), 2);
        due.is("SEAL", x.told(0, 1), new Leaves(5, 0, 6, 999).tableSeal());
    }

    /** BAD is ahead of FULL. */
    private static void badAheadOfFull() {
        Twins.refused(due, "put(0, 1000, 1)", x -> x.put(0, 1000, 1), Tape.BAD);
        Twins.refused(due, "put(0, -1, 1)", x -> x.put(0, -1, 1), Tape.BAD);
        Twins.refused(due, "put(0, 11, 1000)", x -> x.put(0, 11, 1000), Tape.BAD);
        Twins.refused(due, "put(0, 11, -1)", x -> x.put(0, 11, -1), Tape.BAD);
    }

    /** "no two alike": a VALUE takes the place of the one that the KEY had. */
    private static void noTwoAlike() {
        ProvenRows x = new ProvenRows();
        Tape.rows(x, 1, 10, 5, 20, 6, 30, 7);
        due.is("the first anew", x.put(1, 10, 0), 3);
        due.is("the last anew", x.put(1, 30, 999), 3);
        due.is("the same again", x.put(1, 20, 6), 3);
        due.is("SEAL", x.told(1, 1), new Leaves(10, 0, 20, 6, 30, 999).tableSeal());
    }

    /** "by rising KEYS": in whichever order they came. */
    private static void byRisingKeys() {
        int want = new Leaves(1, 11, 2, 12, 3, 13, 4, 14).tableSeal();
        int[][] orders = {{1, 2, 3, 4}, {4, 3, 2, 1}, {2, 4, 1, 3}, {3, 1, 4, 2}};
        for (int[] order : orders) {
            ProvenRows x = new ProvenRows();
            for (int key : order) {
                x.put(2, key, 10 + key);
            }
            due.is("SEAL, " + order[0] + " first", x.told(2, 1), want);
        }
    }

    public static void main(String[] args) {
        upToFourteen();
        fifteenth();
        badTable();
        keys();
        values();
        badAheadOfFull();
        noTwoAlike();
        byRisingKeys();
        due.end();
    }
}
