/** Promise 3: set. */
public final class Promise03Test {
    private static final Due due = new Due("Promise03Test");

    private static void becomes(int lane, int v, int want) {
        ProvenRows x = new ProvenRows();
        x.sheet(0, lane, 1);
        due.is("LANE " + lane + ": " + v, x.set(0, 0, v), want);
        due.is("status()", x.status(), 0);
    }

    /** "its lowest bits, as many as the LANE has": 8 of bytes. */
    private static void lowestBitsOfBytes() {
        becomes(0, 0, 0);
        becomes(0, 127, 127);
        becomes(0, 128, -128);
        becomes(0, 255, -1);
        becomes(0, 256, 0);
        becomes(0, 257, 1);
        becomes(0, -1, -1);
        becomes(0, -128, -128);
        becomes(0, -129, 127);
        becomes(0, -256, 0);
        becomes(0, Tape.MOST, -1);
        becomes(0, Tape.LEAST, 0);
    }

    /** 16 of shorts. */
    private static void lowestBitsOfShorts() {
        becomes(1, 0, 0);
        becomes(1, 128, 128);
        becomes(1, 32767, 32767);
        becomes(1, 32768, -32768);
        becomes(1, 65535, -1);
        becomes(1, 65536, 0);
        becomes(1, 65537, 1);
        becomes(1, -32768, -32768);
        becomes(1, -32769, 32767);
        becomes(1, Tape.MOST, -1);
        becomes(1, Tape.LEAST, 0);
    }

    /** All of ints. */
    private static void allBitsOfInts() {
        for (int v : new int[] {0, 32768, 65536, -1, Tape.MOST, Tape.LEAST}) {
            becomes(2, v, v);
        }
    }

    /** "ITEM i becomes": a CHECK reads what the answer told: 258 is 2 of bytes, so it can be m; 257 is 1. */
    private static void itemBecomesWhatIsTold() {
        ProvenRows x = Three.planned("range 2 0 9;");
        x.sheet(0, 0, 3);
        x.sheet(1, 1, 3);
        x.sheet(2, 2, 3);
        due.is("258 of bytes", x.set(0, 1, 258), 2);
        due.is("is m", x.check(0, 0, 0, 1, 1), -1000201);
        due.is("257 of bytes", x.set(0, 1, 257), 1);
        due.is("is none", x.check(0, 0, 0, 1, 1), -1000200);
        due.is("65538 of shorts", x.set(1, 2, 65538), 2);
        due.is("is m", x.check(0, 0, 1, 2, 1), -1000201);
        due.is("258 of shorts", x.set(1, 2, 258), 258);
        due.is("is none", x.check(0, 0, 1, 2, 1), -1000200);
        due.is("16 of ints", x.set(2, 0, 16), 16);
        due.is("is m", x.check(0, 0, 2, 0, 1), -1000201);
        due.is("65538 of ints", x.set(2, 0, 65538), 65538);
        due.is("is none", x.check(0, 0, 2, 0, 1), -1000200);
        due.is("no other ITEM became it", x.check(0, 0, 1, 1, 1), -1000200);
    }

    /** "BAD: SHEET", ahead of what would be found. */
    private static void badSheet() {
        for (int sheet : Tape.outside(8)) {
            Twins.refused(due, "set(" + sheet + ", 0, 0)", x -> x.set(sheet, 0, 0), Tape.BAD);
            Twins.refused(due, "set(" + sheet + ", -1, 0)", x -> x.set(sheet, -1, 0), Tape.BAD);
        }
    }

    /** "NULL", ahead of PLACE: a SHEET that is missing has no place. */
    private static void missing() {
        for (int i : new int[] {0, -1, 600, Tape.LEAST, Tape.MOST}) {
            Twins.refused(due, "set(7, " + i + ", 0)", x -> x.set(7, i, 0), Tape.NULL);
        }
    }

    /** "PLACE": "no such place of a SHEET". */
    private static void noSuchPlace() {
        for (int i : Tape.outside(100)) {
            Twins.refused(due, "set(0, " + i + ", 0)", x -> x.set(0, i, 0), Tape.PLACE);
        }
        for (int i : Tape.outside(0)) {
            Twins.refused(due, "of a SHEET of none: " + i, x -> x.set(2, i, 0), Tape.PLACE);
        }
        ProvenRows x = new ProvenRows();
        x.sheet(0, 1, 2);
        due.is("the first place", x.set(0, 0, 5), 5);
        due.is("the last place", x.set(0, 1, 6), 6);
        due.is("behind it", x.set(0, 2, 7), Tape.PLACE);
    }

    public static void main(String[] args) {
        lowestBitsOfBytes();
        lowestBitsOfShorts();
        allBitsOfInts();
        itemBecomesWhatIsTold();
        badSheet();
        missing();
        noSuchPlace();
        due.end();
    }
}
