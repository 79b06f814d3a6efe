/** Promises 6 to 10: put, take, told, round, seal. */
public final class TablesTest {
    private static final Due due = new Due("TablesTest");

    private static void put() {
        ProvenRows x = new ProvenRows();
        due.is("table -1", x.put(-1, 0, 0), Tape.BAD);
        due.is("table 3", x.put(3, 0, 0), Tape.BAD);
        due.is("key -1", x.put(0, -1, 0), Tape.BAD);
        due.is("key 1000", x.put(0, 1000, 0), Tape.BAD);
        due.is("value -1", x.put(0, 0, -1), Tape.BAD);
        due.is("value 1000", x.put(0, 0, 1000), Tape.BAD);
        due.is("nothing came", x.count(1), 0);
        for (int i = 0; i < 14; i++) {
            due.is("put", x.put(2, 999 - 50 * i, i), i + 1);
        }
        due.is("a 15th", x.put(2, 0, 0), Tape.FULL);
        due.is("BAD ahead of FULL", x.put(2, 0, 1000), Tape.BAD);
        due.is("a VALUE for one there", x.put(2, 999, 999), 14);
        due.is("its SUM", x.told(2, 3), 999 + 13 * 14 / 2);
        due.is("other TABLES", x.told(1, 0), 0);
        due.is("count(1)", x.count(1), 14);
        due.is("refusals and status()", x.status(), 0);
    }

    private static void take() {
        ProvenRows x = new ProvenRows();
        Tape.rows(x, 1, 0, 7, 999, 8, 500, 9);
        due.is("none there", x.take(1, 1), Tape.STATE);
        due.is("of another TABLE", x.take(0, 0), Tape.STATE);
        due.is("table 3", x.take(3, 0), Tape.BAD);
        due.is("table -1", x.take(-1, 0), Tape.BAD);
        due.is("key -1 is no ROW", x.take(1, -1), Tape.BAD);
        due.is("key 1000 is no ROW", x.take(1, 1000), Tape.BAD);
        due.is("take first", x.take(1, 0), 7);
        due.is("take it again", x.take(1, 0), Tape.STATE);
        due.is("take last", x.take(1, 999), 8);
        due.is("one is left", x.told(1, 0), 1);
        due.is("its SUM", x.told(1, 3), 9);
        due.is("take the last of all", x.take(1, 500), 9);
        due.is("as new", x.told(1, 1), 55173);
        ProvenRows y = new ProvenRows();
        for (int i = 0; i < 14; i++) {
            y.put(0, i, i);
        }
        y.take(0, 6);
        due.is("room for one more", y.put(0, 700, 1), 14);
        due.is("and no more", y.put(0, 6, 1), Tape.FULL);
    }

    private static void told() {
        ProvenRows x = new ProvenRows();
        int first = Tape.leaf(-1, 0);
        int last = Tape.leaf(1000, 0);
        int top = Tape.fork(first, 0, last, 0);
        due.is("two leaves", x.told(0, 2), top);
        due.is("SEAL of two leaves", x.told(0, 1), Tape.j(Tape.j(top, 0), 2));
        x.put(0, 30, 900);
        x.put(0, 10, 50);
        x.put(0, 20, 7);
        int left = Tape.fork(Tape.fork(first, 0, Tape.leaf(10, 50), 50), 50, Tape.leaf(20, 7), 7);
        int right = Tape.fork(Tape.leaf(30, 900), 900, last, 0);
        top = Tape.fork(left, 57, right, 900);
        due.is("ROWS", x.told(0, 0), 3);
        due.is("five leaves, three of them left", x.told(0, 2), top);
        due.is("SUM", x.told(0, 3), 957);
        due.is("SEAL", x.told(0, 1), Tape.j(Tape.j(top, 957), 5));
        int seal = x.told(0, 1);
        x.put(0, 20, 8);
        due.is("another VALUE, another SEAL", x.told(0, 1) == seal ? 1 : 0, 0);
        x.put(0, 20, 7);
        due.is("the same again", x.told(0, 1), seal);
        due.is("what -1", x.told(0, -1), Tape.BAD);
        due.is("what 4", x.told(0, 4), Tape.BAD);
        due.is("table 3", x.told(3, 0), Tape.BAD);
        due.is("table -1", x.told(-1, 0), Tape.BAD);
    }

    private static void rounds() {
        ProvenRows x = new ProvenRows();
        due.is("no ROUND", x.seal(0, 0), Tape.BAD);
        Tape.rows(x, 0, 1, 2);
        Tape.rows(x, 2, 3, 4, 5, 6);
        int line = 0;
        for (int round = 0; round < 20; round++) {
            x.put(1, round % 14, round);
            int own = Tape.j(Tape.j(x.told(0, 1), x.told(1, 1)), x.told(2, 1));
            line = round == 0 ? own : Tape.j(line, own);
            int ofTable1 = x.told(1, 1);
            due.is("round()", x.round(), round);
            x.put(1, round % 14, 999 - round);
            due.is("SEAL of TABLE 0", x.seal(round, 0), x.told(0, 1));
            due.is("SEAL of TABLE 1 as it was", x.seal(round, 1), ofTable1);
            due.is("SEAL of TABLE 2", x.seal(round, 2), x.told(2, 1));
            due.is("LINE", x.seal(round, 3), line);
        }
        due.is("a 21st", x.round(), Tape.FULL);
        due.is("count(2)", x.count(2), 20);
        due.is("round 20", x.seal(20, 0), Tape.BAD);
        due.is("round -1", x.seal(-1, 0), Tape.BAD);
        due.is("what -1", x.seal(0, -1), Tape.BAD);
        due.is("what 4", x.seal(0, 4), Tape.BAD);
        due.is("the last LINE stays", x.seal(19, 3), line);
    }

    public static void main(String[] args) {
        put();
        take();
        told();
        rounds();
        due.end();
    }
}
