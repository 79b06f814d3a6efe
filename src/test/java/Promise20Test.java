/** Promise 20: fewer. */
public final class Promise20Test {
    private static final Due due = new Due("Promise20Test");

    /** TABLE 0 has 14 ROWS, TABLE 1 none, TABLE 2 one. */
    private static ProvenRows tables() {
        ProvenRows x = new ProvenRows();
        for (int i = 0; i < 14; i++) {
            x.put(0, 10 * i, i);
        }
        x.put(2, 500, 1);
        return x;
    }

    /** "that with fewer WORDS; of as many JOIN". */
    private static void fewerOrAsMany() {
        ProvenRows x = tables();
        due.is("no ROW of a: nothing against 8", x.fewer(1, 1, 0, 999), 4);
        due.is("one ROW of a, b empty: 8 against 8", x.fewer(0, 1, 10, 10), 4);
        due.is("two ROWS of a, b empty: 16 against 8", x.fewer(0, 1, 10, 20), 5);
        due.is("14 ROWS of a, b empty", x.fewer(0, 1, 0, 999), 5);
        due.is("no ROW of a between", x.fewer(0, 1, 11, 19), 4);
        due.is("one PROBE against all of b", x.fewer(2, 0, 0, 999), 4);
        due.is("14 PROBES against one RANGE", x.fewer(0, 0, 0, 999), 5);
        due.is("one ROW, and the same of b", x.fewer(0, 0, 50, 50), 4);
        due.is("of a new object", new ProvenRows().fewer(0, 1, 0, 999), 4);
    }

    /** By WORDS of ACTS of the same a, b, low, high; some are as many, and then JOIN. */
    private static void byWords() {
        int asMany = 0;
        int merges = 0;
        for (int a = 0; a < 3; a++) {
            for (int b = 0; b < 3; b++) {
                for (int high : new int[] {0, 9, 10, 25, 130, 999}) {
                    ProvenRows x = tables();
                    Tape.plan(x, "join " + a + " " + b + " 0 " + high + ";merge " + a + " " + b + " 0 " + high + ";");
                    int join = x.proof(0, -1);
                    int merge = x.proof(1, -1);
                    asMany += join == merge ? 1 : 0;
                    merges += merge < join ? 1 : 0;
                    due.is(a + " " + b + " 0 " + high, x.fewer(a, b, 0, high), merge < join ? 5 : 4);
                }
            }
        }
        due.isTrue("as many were seen", asMany > 0);
        due.isTrue("MERGES were seen", merges > 0);
    }

    /** As TABLES are now; it makes no ACT. */
    private static void asTablesAreNow() {
        ProvenRows x = tables();
        due.is("two ROWS", x.fewer(0, 1, 10, 20), 5);
        x.take(0, 20);
        due.is("one ROW", x.fewer(0, 1, 10, 20), 4);
        due.is("no ACT comes", x.count(3), 0);
    }

    /** "BAD: TABLES, low, high": "0 to 999; low no more than high". */
    private static void bad() {
        for (int table : Tape.outside(3)) {
            Twins.refused(due, "a " + table, x -> x.fewer(table, 0, 0, 999), Tape.BAD);
            Twins.refused(due, "b " + table, x -> x.fewer(0, table, 0, 999), Tape.BAD);
        }
        for (int key : Tape.outside(1000)) {
            Twins.refused(due, "low " + key, x -> x.fewer(0, 1, key, 999), Tape.BAD);
            Twins.refused(due, "high " + key, x -> x.fewer(0, 1, 0, key), Tape.BAD);
            Twins.refused(due, "low and high " + key, x -> x.fewer(0, 1, key, key), Tape.BAD);
        }
        Twins.refused(due, "high below low", x -> x.fewer(0, 1, 1, 0), Tape.BAD);
        Twins.refused(due, "high below low, at the end", x -> x.fewer(0, 1, 999, 998), Tape.BAD);
    }

    /** The ends themselves are as told. */
    private static void ends() {
        ProvenRows x = tables();
        due.is("0 to 0", x.fewer(2, 2, 0, 0), 4);
        due.is("999 to 999", x.fewer(2, 2, 999, 999), 4);
        due.is("0 to 999", x.fewer(0, 2, 0, 999), 5);
    }

    public static void main(String[] args) {
        fewerOrAsMany();
        byWords();
        asTablesAreNow();
        bad();
        ends();
        due.end();
    }
}
