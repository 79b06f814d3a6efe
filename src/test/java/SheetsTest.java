/** Promises 1 to 5: a new object, sheet, set, copy, drop; and status() behind each. */
public final class SheetsTest {
    private static final Due due = new Due("SheetsTest");

    private static void newObject() {
        ProvenRows x = new ProvenRows();
        for (int what = 0; what < 6; what++) {
            due.is("new: count(" + what + ")", x.count(what), 0);
        }
        for (int table = 0; table < 3; table++) {
            due.is("new: told(table, 0)", x.told(table, 0), 0);
            due.is("new: told(table, 3)", x.told(table, 3), 0);
        }
        due.is("new: status()", x.status(), 0);
        due.is("new: fault()", x.fault(), 0);
        due.is("new: why()", x.why(), 0);
        due.is("new: read(-1)", x.read(-1), 0);
        due.is("new: read(0)", x.read(0), Tape.NONE);
        due.is("new: trace(0)", x.trace(0), Tape.NONE);
        for (int sheet = 0; sheet < 8; sheet++) {
            due.is("new: drop", x.drop(sheet), Tape.NULL);
        }
    }

    private static void sheet() {
        ProvenRows x = new ProvenRows();
        due.is("sheet 0", x.sheet(0, 0, 600), 600);
        due.is("sheet 7 of none", x.sheet(7, 2, 0), 0);
        due.is("count(0)", x.count(0), 2);
        due.is("sheet -1", x.sheet(-1, 0, 1), Tape.BAD);
        due.is("sheet 8", x.sheet(8, 0, 1), Tape.BAD);
        due.is("lane -1", x.sheet(1, -1, 1), Tape.BAD);
        due.is("lane 3", x.sheet(1, 3, 1), Tape.BAD);
        due.is("n 601", x.sheet(1, 0, 601), Tape.BAD);
        due.is("n below none", x.sheet(0, 1, -1), Tape.SIZE);
        due.is("status", x.status(), 4);
        due.is("lane 3, n below none", x.sheet(0, 3, -1), Tape.BAD);
        due.is("status after BAD", x.status(), 4);
        due.is("what was found changed nothing", x.set(0, 599, 300), 44);
        due.is("status", x.status(), 0);
        due.is("sheet in place of another", x.sheet(0, 1, 3), 3);
        due.is("its lane", x.set(0, 2, 300), 300);
        due.is("its size", x.set(0, 3, 1), Tape.PLACE);
        due.is("sheet anew", x.sheet(0, 1, 3), 3);
        due.is("copy of the items", x.sheet(1, 1, 3), 3);
        due.is("set", x.set(1, 2, 5), 5);
        due.is("items are 0 at first", x.copy(0, 0, 1, 0, 3), 3);
        due.is("count(0)", x.count(0), 3);
    }

    private static void set() {
        ProvenRows x = new ProvenRows();
        due.is("missing", x.set(0, 0, 0), Tape.NULL);
        due.is("status", x.status(), 1);
        x.sheet(0, 0, 2);
        x.sheet(1, 1, 2);
        x.sheet(2, 2, 2);
        due.is("byte 127", x.set(0, 0, 127), 127);
        due.is("byte 128", x.set(0, 0, 128), -128);
        due.is("byte 255", x.set(0, 0, 255), -1);
        due.is("byte 256", x.set(0, 0, 256), 0);
        due.is("byte -129", x.set(0, 0, -129), 127);
        due.is("short 32767", x.set(1, 0, 32767), 32767);
        due.is("short 32768", x.set(1, 0, 32768), -32768);
        due.is("short 65535", x.set(1, 0, 65535), -1);
        due.is("int least", x.set(2, 0, Integer.MIN_VALUE), Integer.MIN_VALUE);
        due.is("int most", x.set(2, 1, Integer.MAX_VALUE), Integer.MAX_VALUE);
        due.is("place -1", x.set(2, -1, 0), Tape.PLACE);
        due.is("status", x.status(), 2);
        due.is("place 2", x.set(2, 2, 0), Tape.PLACE);
        due.is("place most", x.set(2, Integer.MAX_VALUE, 0), Tape.PLACE);
        due.is("sheet 8", x.set(8, 0, 0), Tape.BAD);
        due.is("sheet -1", x.set(-1, 0, 0), Tape.BAD);
        due.is("status after BAD", x.status(), 2);
    }

    private static void copy() {
        ProvenRows x = new ProvenRows();
        x.sheet(0, 2, 5);
        x.sheet(1, 2, 3);
        x.sheet(2, 1, 3);
        for (int i = 0; i < 5; i++) {
            x.set(0, i, 10 + i);
        }
        due.is("missing a", x.copy(3, 0, 0, 0, 1), Tape.NULL);
        due.is("missing b", x.copy(0, 0, 3, 0, 1), Tape.NULL);
        due.is("two lanes", x.copy(0, 0, 2, 0, 1), Tape.STORE);
        due.is("status", x.status(), 5);
        due.is("two lanes ahead of place", x.copy(0, -1, 2, 0, 1), Tape.STORE);
        due.is("missing ahead of lanes", x.copy(0, -1, 4, 0, 1), Tape.NULL);
        due.is("i below 0", x.copy(0, -1, 1, 0, 1), Tape.PLACE);
        due.is("j below 0", x.copy(0, 0, 1, -1, 1), Tape.PLACE);
        due.is("n below 0", x.copy(0, 0, 1, 0, -1), Tape.PLACE);
        due.is("a's end", x.copy(1, 1, 0, 0, 3), Tape.PLACE);
        due.is("b's end", x.copy(0, 0, 1, 1, 3), Tape.PLACE);
        due.is("n most", x.copy(0, 1, 1, 1, Integer.MAX_VALUE), Tape.PLACE);
        due.is("i most", x.copy(0, Integer.MAX_VALUE, 1, 0, 1), Tape.PLACE);
        due.is("n least", x.copy(0, 0, 1, 0, Integer.MIN_VALUE), Tape.PLACE);
        due.is("status", x.status(), 2);
        due.is("sheet 8", x.copy(8, 0, 1, 0, 1), Tape.BAD);
        due.is("sheet -1", x.copy(0, 0, -1, 0, 1), Tape.BAD);
        due.is("none at the ends", x.copy(0, 5, 1, 3, 0), 0);
        due.is("none beyond the end", x.copy(0, 6, 1, 3, 0), Tape.PLACE);
        due.is("status", x.status(), 2);
    }

    /** No call tells an ITEM: a PROOF that is taken where it came to tells that all came as they were. */
    private static void copyOfProof() {
        ProvenRows x = new ProvenRows();
        Tape.rows(x, 0, 10, 5, 20, 6, 30, 7, 40, 8, 50, 9);
        x.round();
        Tape.plan(x, "range 0 10 50;");
        int n = x.proof(0, -1);
        x.sheet(0, 2, n + 3);
        x.sheet(1, 2, n);
        x.write(0, 0, 0);
        due.is("from one to another", x.copy(0, 0, 1, 0, n), n);
        due.is("it came", x.check(0, 0, 1, 0, n), 1);
        due.is("up within one", x.copy(0, 0, 0, 3, n), n);
        due.is("it came up", x.check(0, 0, 0, 3, n), 1);
        due.is("down within one", x.copy(0, 3, 0, 1, n), n);
        due.is("it came down", x.check(0, 0, 0, 1, n), 1);
        due.is("the ITEM ahead stays", x.copy(0, 0, 1, 0, 1), 1);
        due.is("and is the first number", x.check(0, 0, 1, 0, n), 1);
        due.is("a part alone", x.sheet(1, 2, n), n);
        due.is("a part alone", x.copy(0, 1, 1, 0, 3), 3);
        due.is("zeros behind it: three TREES that are not SHOWN", x.check(0, 0, 1, 0, n), -1000200 - 12);
        due.is("status", x.status(), 0);
    }

    private static void drop() {
        ProvenRows x = new ProvenRows();
        x.sheet(3, 1, 17);
        due.is("drop", x.drop(3), 17);
        due.is("count(0)", x.count(0), 0);
        due.is("drop again", x.drop(3), Tape.NULL);
        due.is("status", x.status(), 1);
        due.is("set", x.set(3, 0, 0), Tape.NULL);
        due.is("drop -1", x.drop(-1), Tape.BAD);
        due.is("drop 8", x.drop(8), Tape.BAD);
        due.is("sheet of none is there", x.sheet(3, 0, 0), 0);
        due.is("status", x.status(), 0);
        due.is("drop of none", x.drop(3), 0);
    }

    public static void main(String[] args) {
        newObject();
        sheet();
        set();
        copy();
        copyOfProof();
        drop();
        due.end();
    }
}
