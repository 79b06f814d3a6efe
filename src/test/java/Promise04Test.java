/** Promise 4: copy. */
public final class Promise04Test {
    private static final Due due = new Due("Promise04Test");

    /** SHEET 0 has the PROOF of ACT 0 from a place on, and room for three ITEMS more; SHEET 1 just for the PROOF. */
    private static ProvenRows proofAt(int place) {
        ProvenRows x = Three.planned("range 0 0 999;");
        x.sheet(0, 2, 23);
        x.sheet(1, 2, 20);
        x.write(0, 0, place);
        return x;
    }

    private static void taken(String name, ProvenRows x, int sheet, int i) {
        due.is(name, x.check(0, 0, sheet, i, 20), 1);
    }

    /** "n ITEMS of a from i on come to b from j on": n. */
    private static void fromOneToAnother() {
        ProvenRows x = proofAt(3);
        due.is("all of them", x.copy(0, 3, 1, 0, 20), 20);
        due.is("status()", x.status(), 0);
        taken("they came", x, 1, 0);
        taken("and stayed", x, 0, 3);
        x.sheet(1, 2, 20);
        due.is("a part", x.copy(0, 3, 1, 0, 12), 12);
        due.is("the rest", x.copy(0, 15, 1, 12, 8), 8);
        taken("both came", x, 1, 0);
        x.set(1, 19, 1);
        x.copy(0, 3, 1, 0, 19);
        due.is("no more than n: the 1 stays", x.check(0, 0, 1, 0, 20), -1000219);
        x.set(1, 0, 77);
        x.copy(0, 4, 1, 1, 19);
        due.is("none ahead of j", x.check(0, 0, 1, 0, 20), -1000200);
    }

    /** "as they were ahead": within one SHEET where the places overlap, up and down. */
    private static void asTheyWereAhead() {
        for (int by = 1; by <= 3; by++) {
            ProvenRows up = proofAt(0);
            due.is("up by " + by, up.copy(0, 0, 0, by, 20), 20);
            taken("up by " + by + ": as they were", up, 0, by);
            ProvenRows down = proofAt(3);
            due.is("down by " + by, down.copy(0, 3, 0, 3 - by, 20), 20);
            taken("down by " + by + ": as they were", down, 0, 3 - by);
        }
        ProvenRows x = proofAt(2);
        due.is("to where they are", x.copy(0, 2, 0, 2, 20), 20);
        taken("as they were", x, 0, 2);
    }

    /** Two SHEETS of any one LANE. */
    private static void ofEveryLane() {
        ProvenRows x = Three.planned("range 2 0 9;");
        Tape.fillSheet(x, 0, 1, Three.WHOLE_2);
        x.sheet(1, 1, 8);
        due.is("shorts", x.copy(0, 0, 1, 0, 8), 8);
        due.is("they came", x.check(0, 0, 1, 0, 8), 1);
        Tape.fillSheet(x, 2, 0, 0, 2, 1, 1, -1, 3);
        x.sheet(3, 0, 9);
        due.is("bytes", x.copy(2, 1, 3, 4, 5), 5);
        due.is("they came: 2, 1, 1, -1 hold, 3 does not", x.check(0, 0, 3, 4, 5), -1000204);
    }

    /** "(i, j, n below 0, or beyond an end)": just up to the ends is no finding. */
    private static void upToTheEnds() {
        ProvenRows x = new ProvenRows();
        x.sheet(0, 2, 5);
        x.sheet(1, 2, 3);
        x.sheet(2, 2, 0);
        due.is("all of b", x.copy(0, 2, 1, 0, 3), 3);
        due.is("all of a", x.copy(1, 0, 0, 2, 3), 3);
        due.is("the last ITEM", x.copy(0, 4, 1, 2, 1), 1);
        due.is("none, at the ends", x.copy(0, 5, 1, 3, 0), 0);
        due.is("none, of none", x.copy(2, 0, 2, 0, 0), 0);
        due.is("status()", x.status(), 0);
    }

    private static void place(String name, int i, int j, int n) {
        Twins.refused(due, name, x -> x.sheet(3, 2, 5), x -> x.copy(0, i, 3, j, n), Tape.PLACE);
        Twins.refused(due, name + ", the other way", x -> x.sheet(3, 2, 5), x -> x.copy(3, j, 0, i, n), Tape.PLACE);
    }

    /** SHEET 0 has 100 ITEMS, SHEET 3 has 5. */
    private static void noSuchPlace() {
        place("i below 0", -1, 0, 1);
        place("i below 0, none", -1, 0, 0);
        place("j below 0", 0, -1, 1);
        place("j below 0, none", 0, -1, 0);
        place("n below 0", 0, 0, -1);
        place("n below 0, within", 50, 3, -2);
        place("beyond the end of a", 96, 0, 5);
        place("beyond the end of b", 0, 1, 5);
        place("none, beyond the end of a", 101, 0, 0);
        place("none, beyond the end of b", 0, 6, 0);
        place("n most", 0, 0, Tape.MOST);
        place("n most, where i and n wrap around", 1, 1, Tape.MOST);
        place("n least", 0, 0, Tape.LEAST);
        place("i most", Tape.MOST, 0, 1);
        place("j most", 0, Tape.MOST, 1);
        place("i least", Tape.LEAST, 0, 1);
        place("i least, n least", Tape.LEAST, 0, Tape.LEAST);
        Twins.refused(due, "within one SHEET", x -> x.copy(0, 0, 0, 1, 100), Tape.PLACE);
        Twins.refused(due, "of a SHEET of none", x -> x.copy(2, 0, 2, 0, 1), Tape.PLACE);
    }

    /** "BAD: SHEETS", ahead of NULL. */
    private static void badSheets() {
        for (int sheet : Tape.outside(8)) {
            Twins.refused(due, "a " + sheet, x -> x.copy(sheet, 0, 0, 0, 1), Tape.BAD);
            Twins.refused(due, "b " + sheet, x -> x.copy(0, 0, sheet, 0, 1), Tape.BAD);
            Twins.refused(due, "a missing, b " + sheet, x -> x.copy(7, 0, sheet, 0, 1), Tape.BAD);
            Twins.refused(due, "a " + sheet + ", b missing", x -> x.copy(sheet, 0, 7, 0, -1), Tape.BAD);
        }
    }

    /** "NULL", ahead of STORE and PLACE. */
    private static void missing() {
        Twins.refused(due, "a missing", x -> x.copy(7, 0, 0, 0, 1), Tape.NULL);
        Twins.refused(due, "b missing", x -> x.copy(0, 0, 7, 0, 1), Tape.NULL);
        Twins.refused(due, "both missing", x -> x.copy(7, 0, 7, 0, 0), Tape.NULL);
        Twins.refused(due, "a missing, no such place", x -> x.copy(7, -1, 0, 0, -1), Tape.NULL);
        Twins.refused(due, "b missing, no such place", x -> x.copy(1, -1, 7, 0, 700), Tape.NULL);
    }

    /** "STORE": "SHEETS of two LANES"; ahead of PLACE. */
    private static void twoLanes() {
        Twins.refused(due, "ints to shorts", x -> x.copy(0, 0, 1, 0, 1), Tape.STORE);
        Twins.refused(due, "shorts to ints", x -> x.copy(1, 0, 0, 0, 1), Tape.STORE);
        Twins.refused(due, "shorts to bytes", x -> x.copy(1, 0, 2, 0, 0), Tape.STORE);
        Twins.refused(due, "bytes to ints, none", x -> x.copy(2, 0, 0, 0, 0), Tape.STORE);
        Twins.refused(due, "no such place of a", x -> x.copy(0, -1, 1, 0, 1), Tape.STORE);
        Twins.refused(due, "no such place of b", x -> x.copy(0, 0, 1, 9, 1), Tape.STORE);
        Twins.refused(due, "n below 0", x -> x.copy(0, 0, 1, 0, -1), Tape.STORE);
    }

    public static void main(String[] args) {
        fromOneToAnother();
        asTheyWereAhead();
        ofEveryLane();
        upToTheEnds();
        noSuchPlace();
        badSheets();
        missing();
        twoLanes();
        due.end();
    }
}
