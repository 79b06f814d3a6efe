/** Promise 2: sheet. */
public final class Promise02Test {
    private static final Due due = new Due("Promise02Test");

    /** "SHEETS 0 .. 7", "a LANE (0 bytes, 1 shorts, 2 ints)": all of them, and no other. */
    private static void everySheetOfEveryLane() {
        for (int lane = 0; lane < 3; lane++) {
            ProvenRows x = new ProvenRows();
            for (int sheet = 0; sheet < 8; sheet++) {
                due.is("sheet(" + sheet + ", " + lane + ", 1)", x.sheet(sheet, lane, 1), 1);
                due.is("SHEETS", x.count(0), sheet + 1);
                due.is("status()", x.status(), 0);
            }
        }
    }

    /** "BAD: SHEET, LANE". */
    private static void badSheetOrLane() {
        for (int sheet : Tape.outside(8)) {
            Twins.refused(due, "sheet(" + sheet + ", 0, 1)", x -> x.sheet(sheet, 0, 1), Tape.BAD);
        }
        for (int lane : Tape.outside(3)) {
            Twins.refused(due, "sheet(0, " + lane + ", 1)", x -> x.sheet(0, lane, 1), Tape.BAD);
        }
    }

    /** "0 to 600 ITEMS", "n above 600" is BAD. */
    private static void emptyAndFull() {
        ProvenRows x = new ProvenRows();
        due.is("none", x.sheet(0, 0, 0), 0);
        due.is("a SHEET of none is there", x.count(0), 1);
        due.is("it has no place", x.set(0, 0, 1), Tape.PLACE);
        due.is("600", x.sheet(0, 2, 600), 600);
        due.is("the first place", x.set(0, 0, -7), -7);
        due.is("the last place", x.set(0, 599, 1234567), 1234567);
        due.is("behind it", x.set(0, 600, 1), Tape.PLACE);
        for (int n : new int[] {601, 602, Tape.MOST}) {
            Twins.refused(due, "n " + n, y -> y.sheet(0, 2, n), Tape.BAD);
        }
    }

    /** "SIZE": "fewer than none". */
    private static void fewerThanNone() {
        for (int n : new int[] {-1, -600, Tape.NONE, Tape.LEAST}) {
            Twins.refused(due, "n " + n + " of a SHEET that is there", x -> x.sheet(0, 2, n), Tape.SIZE);
            Twins.refused(due, "n " + n + " of one that is missing", x -> x.sheet(5, 0, n), Tape.SIZE);
        }
    }

    /** BAD is ahead of what would be found. */
    private static void badAheadOfSize() {
        Twins.refused(due, "sheet(8, 0, -1)", x -> x.sheet(8, 0, -1), Tape.BAD);
        Twins.refused(due, "sheet(0, 3, -1)", x -> x.sheet(0, 3, -1), Tape.BAD);
    }

    /** "in place of what is there": its LANE and how many ITEMS it has are the new ones. */
    private static void inPlaceOfWhatIsThere() {
        ProvenRows x = new ProvenRows();
        x.sheet(3, 2, 9);
        due.is("fewer, of bytes", x.sheet(3, 0, 4), 4);
        due.is("there are no more SHEETS", x.count(0), 1);
        due.is("its LANE", x.set(3, 3, 0x1ff), -1);
        due.is("its end", x.set(3, 4, 1), Tape.PLACE);
        due.is("more, of shorts", x.sheet(3, 1, 6), 6);
        due.is("its LANE", x.set(3, 5, 0x1ff), 511);
        due.is("its end", x.set(3, 6, 1), Tape.PLACE);
        due.is("how many", x.drop(3), 6);
    }

    /** "ITEMS, 0 at first": two of four are set, the others must be the 0 that the CHECK needs there. */
    private static void itemsAreZeroAtFirst() {
        ProvenRows x = Three.planned("range 2 0 9;");
        x.sheet(0, 2, 4);
        zeros(x, "new");
        for (int i = 0; i < 4; i++) {
            x.set(0, i, 1);
        }
        x.sheet(0, 2, 4);
        zeros(x, "in place of what is there");
        for (int i = 0; i < 4; i++) {
            x.set(0, i, 1);
        }
        x.drop(0);
        x.sheet(0, 2, 4);
        zeros(x, "behind a drop");
    }

    private static void zeros(ProvenRows x, String when) {
        due.is(when + ": a first ITEM of 0 is no m", x.check(0, 0, 0, 0, 4), -1000200);
        x.set(0, 0, 2);
        x.set(0, 2, new Leaves().seal(0, 2));
        due.is(when + ": 2, 0, SEAL, 0", x.check(0, 0, 0, 0, 4), -1000204);
        due.is(when + ": its SEAL holds, but nothing is SHOWN", x.why(), 3);
    }

    public static void main(String[] args) {
        everySheetOfEveryLane();
        badSheetOrLane();
        emptyAndFull();
        fewerThanNone();
        badAheadOfSize();
        inPlaceOfWhatIsThere();
        itemsAreZeroAtFirst();
        due.end();
    }
}
