/** Promise 16: write. */
public final class Promise16Test {
    private static final Due due = new Due("Promise16Test");

    /** "PROOFS of an ACT come into a SHEET from i on: how many numbers". */
    private static void fromIOn() {
        for (int i = 0; i <= 3; i++) {
            ProvenRows x = Three.planned("range 0 0 999;");
            x.sheet(0, 2, 23);
            due.is("write(0, 0, " + i + ")", x.write(0, 0, i), 20);
            due.is("status()", x.status(), 0);
            due.is("they are there", x.check(0, 0, 0, i, 20), 1);
        }
    }

    /** Those ahead of i and behind the last stay. */
    private static void othersStay() {
        ProvenRows x = Three.planned("probe 2 5;range 0 0 999;");
        x.sheet(0, 2, 36);
        x.write(0, 0, 0);
        x.write(0, 0, 28);
        x.write(1, 0, 8);
        due.is("ahead", x.check(0, 0, 0, 0, 8), 1);
        due.is("between", x.check(1, 0, 0, 8, 20), 1);
        due.is("behind", x.check(0, 0, 0, 28, 8), 1);
    }

    /** "as it is now": TABLES that have changed give other PROOFS; where there are fewer numbers the rest stays. */
    private static void asTablesAreNow() {
        ProvenRows x = Three.planned("range 0 0 999;probe 2 5;");
        x.sheet(0, 2, 20);
        x.write(0, 0, 0);
        x.take(0, 10);
        due.is("one ROW less", x.write(0, 0, 0), 16);
        x.round();
        due.is("they are there", x.check(0, 1, 0, 0, 16), 1);
        due.is("the last four stay", x.check(0, 1, 0, 0, 20), -1000216);
    }

    /** A SHEET that has just the room, and one that has one ITEM less. */
    private static void justTheRoom() {
        ProvenRows x = Three.planned("probe 2 5;");
        x.sheet(0, 2, 8);
        due.is("eight of eight", x.write(0, 0, 0), 8);
        x.sheet(0, 2, 7);
        due.is("eight of seven", x.write(0, 0, 0), Tape.PLACE);
        x.sheet(0, 2, 0);
        due.is("eight of none", x.write(0, 0, 0), Tape.PLACE);
        ProvenRows y = new ProvenRows();
        for (int i = 0; i < 14; i++) {
            y.put(0, i, i);
        }
        Tape.plan(y, "join 0 0 0 999;");
        int words = y.proof(0, -1);
        y.sheet(0, 2, 600);
        due.is("the widest, at the end", y.write(0, 0, 600 - words), words);
        due.is("one beyond it", y.write(0, 0, 601 - words), Tape.PLACE);
        y.round();
        due.is("it is there", y.check(0, 0, 0, 600 - words, words), 1);
    }

    /** "BAD: ACT, SHEET", ahead of what would be found. */
    private static void bad() {
        due.is("no ACT at all", new ProvenRows().write(0, 0, 0), Tape.BAD);
        for (int act : Tape.outside(8)) {
            Twins.refused(due, "write(" + act + ", 0, 0)", x -> x.write(act, 0, 0), Tape.BAD);
            Twins.refused(due, "write(" + act + ", 7, -1)", x -> x.write(act, 7, -1), Tape.BAD);
        }
        for (int sheet : Tape.outside(8)) {
            Twins.refused(due, "write(0, " + sheet + ", 0)", x -> x.write(0, sheet, 0), Tape.BAD);
            Twins.refused(due, "write(0, " + sheet + ", -1)", x -> x.write(0, sheet, -1), Tape.BAD);
        }
    }

    /** "NULL", ahead of PLACE. */
    private static void missing() {
        for (int i : new int[] {0, -1, 600, Tape.MOST}) {
            Twins.refused(due, "write(0, 7, " + i + ")", x -> x.write(0, 7, i), Tape.NULL);
        }
    }

    /** "PLACE": nothing is written, not what had room, either. In Twins SHEET 0 has 100 ITEMS, ACT 7 has 8 WORDS. */
    private static void noSuchPlace() {
        for (int i : new int[] {-1, 93, 100, 101, Tape.LEAST, Tape.MOST, Tape.MOST - 7}) {
            Twins.refused(due, "write(7, 0, " + i + ")", x -> x.write(7, 0, i), Tape.PLACE);
        }
        Twins.refused(due, "begins with the first, ends beyond", x -> x.write(1, 0, 80), Tape.PLACE);
    }

    /** "STORE: it is not of ints". */
    private static void notOfInts() {
        for (int lane = 0; lane < 2; lane++) {
            int each = lane;
            Twins.refused(due, "LANE " + lane, x -> x.sheet(4, each, 100), x -> x.write(0, 4, 0), Tape.STORE);
            Twins.refused(due, "LANE " + lane + ", at the end", x -> x.sheet(4, each, 10), x -> x.write(7, 4, 2), Tape.STORE);
        }
        Twins.refused(due, "PROOFS that shorts could hold", x -> x.write(7, 1, 0), Tape.STORE);
    }

    /** The promise tells NULL, then PLACE, then STORE: so in time. */
    private static void placeAheadOfStore() {
        Twins.refused(due, "below 0, of shorts", x -> x.write(7, 1, -1), Tape.PLACE);
        Twins.refused(due, "beyond the end, of shorts", x -> x.write(7, 1, 1), Tape.PLACE);
        Twins.refused(due, "bytes, none of them", x -> x.write(7, 2, 0), Tape.PLACE);
    }

    public static void main(String[] args) {
        fromIOn();
        othersStay();
        asTablesAreNow();
        justTheRoom();
        bad();
        missing();
        noSuchPlace();
        notOfInts();
        placeAheadOfStore();
        due.end();
    }
}
