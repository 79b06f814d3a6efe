/** Promise 5: drop. */
public final class Promise05Test {
    private static final Due due = new Due("Promise05Test");

    /** "how many ITEMS it had": none, one, all that there can be. */
    private static void howManyItemsItHad() {
        for (int n : new int[] {0, 1, 17, 600}) {
            for (int lane = 0; lane < 3; lane++) {
                ProvenRows x = new ProvenRows();
                x.sheet(0, lane, n);
                due.is("drop of " + n, x.drop(0), n);
                due.is("status()", x.status(), 0);
            }
        }
    }

    /** "A SHEET is missing from now on", that one alone. */
    private static void missingFromNowOn() {
        ProvenRows x = Three.planned("range 2 0 9;");
        for (int sheet = 0; sheet < 8; sheet++) {
            x.sheet(sheet, 2, sheet);
        }
        due.is("drop(3)", x.drop(3), 3);
        due.is("SHEETS", x.count(0), 7);
        due.is("set", x.set(3, 0, 0), Tape.NULL);
        due.is("copy from", x.copy(3, 0, 0, 0, 0), Tape.NULL);
        due.is("copy to", x.copy(0, 0, 3, 0, 0), Tape.NULL);
        due.is("write", x.write(0, 3, 0), Tape.NULL);
        due.is("check", x.check(0, 0, 3, 0, 0), Tape.NULL);
        due.is("drop again", x.drop(3), Tape.NULL);
        due.is("sheet(3, 0, 2)", x.sheet(3, 0, 2), 2);
        due.is("it is there again", x.drop(3), 2);
        for (int sheet : new int[] {0, 1, 2, 4, 5, 6, 7}) {
            due.is("drop(" + sheet + ")", x.drop(sheet), sheet);
        }
        due.is("no SHEET", x.count(0), 0);
    }

    /** "BAD". */
    private static void badSheet() {
        for (int sheet : Tape.outside(8)) {
            Twins.refused(due, "drop(" + sheet + ")", x -> x.drop(sheet), Tape.BAD);
        }
    }

    /** "NULL". */
    private static void missing() {
        Twins.refused(due, "drop(7)", x -> x.drop(7), Tape.NULL);
        Twins.refused(due, "a SHEET that has gone", x -> x.drop(0), x -> x.drop(0), Tape.NULL);
    }

    public static void main(String[] args) {
        howManyItemsItHad();
        missingFromNowOn();
        badSheet();
        missing();
        due.end();
    }
}
