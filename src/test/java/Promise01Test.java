/** Promise 1: a new object. */
public final class Promise01Test {
    private static final Due due = new Due("Promise01Test");

    /** "All TABLES are empty": the two leaves that are always there, and no ROW. */
    private static void allTablesAreEmpty() {
        ProvenRows x = new ProvenRows();
        Leaves none = new Leaves();
        for (int table = 0; table < 3; table++) {
            due.is("ROWS of TABLE " + table, x.told(table, 0), 0);
            due.is("SEAL of TABLE " + table, x.told(table, 1), none.tableSeal());
            due.is("SEAL of the TREE of TABLE " + table, x.told(table, 2), none.seal(0, 2));
            due.is("SUM of TABLE " + table, x.told(table, 3), 0);
            due.is("a ROW of TABLE " + table, x.take(table, 0), Tape.STATE);
        }
    }

    /** "SHEETS 0 .. 7 are missing (at first)". */
    private static void sheetsAreMissingAtFirst() {
        ProvenRows x = new ProvenRows();
        for (int sheet = 0; sheet < 8; sheet++) {
            due.is("set of SHEET " + sheet, x.set(sheet, 0, 1), Tape.NULL);
            due.is("drop of SHEET " + sheet, x.drop(sheet), Tape.NULL);
        }
    }

    /** "0 before one", "or there was none": what calls tell of what has not been. */
    private static void nothingHasBeen() {
        ProvenRows x = new ProvenRows();
        due.is("status()", x.status(), 0);
        due.is("fault()", x.fault(), 0);
        due.is("why()", x.why(), 0);
        due.areAll("read", x::read);
        due.is("trace(0)", x.trace(0), Tape.NONE);
        due.is("seal(0, 0)", x.seal(0, 0), Tape.BAD);
        due.is("kind(0)", x.kind(0), Tape.BAD);
        for (int what = 0; what < 6; what++) {
            due.is("count(" + what + ")", x.count(what), 0);
        }
    }

    /** What is done to one object is not seen by another, older or newer. */
    private static void objectsHaveNothingInCommon() {
        ProvenRows older = new ProvenRows();
        ProvenRows x = Three.given("range 0 0 999;", Three.WHOLE);
        x.check(0, 0, 7, 0, 20);
        x.ask(0, 0);
        x.as(0, 6);
        Tape.plan(x, "?");
        Tape.feed(x, "sum");
        ProvenRows newer = new ProvenRows();
        for (ProvenRows other : new ProvenRows[] {older, newer}) {
            due.is("status()", other.status(), 0);
            due.is("fault()", other.fault(), 0);
            due.is("read(-1)", other.read(-1), 0);
            due.is("trace(0)", other.trace(0), Tape.NONE);
            due.is("told(0, 1)", other.told(0, 1), new Leaves().tableSeal());
            for (int what = 0; what < 6; what++) {
                due.is("count(" + what + ")", other.count(what), 0);
            }
        }
        due.is("the one keeps what it has", x.count(1), 4);
    }

    public static void main(String[] args) {
        allTablesAreEmpty();
        sheetsAreMissingAtFirst();
        nothingHasBeen();
        objectsHaveNothingInCommon();
        due.end();
    }
}
