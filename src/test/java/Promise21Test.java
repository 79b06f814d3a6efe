/** Promise 21: forged. */
public final class Promise21Test {
    private static final Due due = new Due("Promise21Test");

    /** "at how many of its places it is taken": a SEAL s of a left part may be told as 65521 - s, its square leaves the same rest. */
    private static void theOtherRoot() {
        int seen = 0;
        for (int value = 0; value < 60; value++) {
            ProvenRows x = new ProvenRows();
            Tape.rows(x, 0, 10, value, 20, 6, 30, 7);
            x.round();
            Tape.plan(x, "probe 0 40;");
            int d = 65521 - 2 * x.proof(0, 3);
            if (d > 0) {
                due.is("VALUE " + value + ", d " + d, x.forged(0, d), 1);
                seen++;
            }
        }
        due.isTrue("some were seen", seen > 10);
    }

    /** Of all its PROOFS: the same part is told twice, so there are two places. */
    private static void ofAllProofs() {
        int seen = 0;
        for (int value = 0; value < 60; value++) {
            ProvenRows x = new ProvenRows();
            Tape.rows(x, 0, 10, value, 20, 6, 30, 7);
            x.round();
            Tape.plan(x, "merge 0 0 40 40;join 0 0 40 40;");
            int d = 65521 - 2 * x.proof(0, 3);
            if (d > 0) {
                due.is("in both of a MERGE", x.forged(0, d), 2);
                due.is("in the one of a JOIN", x.forged(1, d), 1);
                seen++;
            }
        }
        due.isTrue("some were seen", seen > 10);
    }

    /** Place 0: with m more by 2 "1 1 26" is no leaf, but a fork whose left leaf has KEY 26, VALUE 1; the SEAL is the same. */
    private static void theFirstPlace() {
        ProvenRows x = new ProvenRows();
        Tape.rows(x, 0, 0, 1, 1, 26, 99, 24);
        x.round();
        Tape.plan(x, "first 0 0 3;");
        due.is("d 2", x.forged(0, 2), 1);
        due.is("d 1", x.forged(0, 1), 0);
        due.is("d 3", x.forged(0, 3), 0);
        x.sheet(0, 2, 20);
        x.write(0, 0, 0);
        due.is("m", x.set(0, 0, 7), 7);
        due.is("check", x.check(0, 0, 0, 0, 20), 1);
        due.areAll("read", x::read, 0, 1, 26, 1, 99, 24);
    }

    /** The last place: a SUM that is more by d in two forks and in the TABLE, and makes the same SEAL. */
    private static void theLastPlace() {
        int[][] valuesAndD = {{13, 4026}, {19, 4970}, {20, 1858}, {32, 5715}, {39, 7046}};
        for (int[] each : valuesAndD) {
            ProvenRows x = new ProvenRows();
            Tape.rows(x, 0, 10, each[0], 20, 6, 30, 7);
            x.round();
            Tape.plan(x, "first 0 0 1;");
            due.is("d " + each[1], x.forged(0, each[1]), 1);
            due.is("d beside it", x.forged(0, each[1] + 1), 0);
            x.sheet(0, 2, 16);
            x.write(0, 0, 0);
            x.set(0, 15, 7 + each[1]);
            due.is("check", x.check(0, 0, 0, 0, 16), 1);
        }
    }

    /** As check() counts it: each number in its turn more by d in a SHEET. */
    private static void asCheckCountsIt() {
        for (int d : new int[] {1, 7, 980, 65520}) {
            ProvenRows x = Three.planned("join 0 1 10 20;");
            int words = x.proof(0, -1);
            x.sheet(0, 2, words);
            x.write(0, 0, 0);
            int taken = 0;
            for (int k = 0; k < words; k++) {
                int number = x.proof(0, k);
                x.set(0, k, number + d);
                taken += x.check(0, 0, 0, 0, words) == 1 ? 1 : 0;
                x.set(0, k, number);
            }
            due.is("d " + d, x.forged(0, d), taken);
        }
    }

    /** "d (1 to 65520)": "BAD: ACT, d". */
    private static void bad() {
        for (int d : new int[] {0, -1, 65521, Tape.LEAST, Tape.MOST}) {
            Twins.refused(due, "d " + d, x -> x.forged(0, d), Tape.BAD);
        }
        for (int act : Tape.outside(8)) {
            Twins.refused(due, "ACT " + act, x -> x.forged(act, 1), Tape.BAD);
        }
        ProvenRows x = Three.planned("probe 0 40;");
        due.is("d 1", x.forged(0, 1), 0);
        due.is("d 65520", x.forged(0, 65520), 0);
        due.is("no ACT at all", new ProvenRows().forged(0, 1), Tape.BAD);
    }

    /** "STATE: there is no ROUND". */
    private static void noRound() {
        ProvenRows x = new ProvenRows();
        Tape.plan(x, "probe 0 40;");
        due.is("no ROUND", x.forged(0, 1), Tape.STATE);
        due.is("no ROUND, d 0", x.forged(0, 0), Tape.BAD);
        due.is("no ROUND, no such ACT", x.forged(1, 1), Tape.BAD);
        x.round();
        due.is("a ROUND", x.forged(0, 1), 0);
        ProvenRows y = new ProvenRows();
        y.put(0, 37, 480);
        Tape.plan(y, "range 0 0 999;");
        due.is("a TABLE whose SEAL is 0", y.told(0, 1), 0);
        due.is("no ROUND is no SEAL of 0", y.forged(0, 1), Tape.STATE);
        y.round();
        due.is("a ROUND of it", y.forged(0, 1), 0);
    }

    /** "or the PROOF as it is would not be taken": of "the latest ROUND", for "a PROOF as it is now". */
    private static void wouldNotBeTaken() {
        Twins.refused(due, "another VALUE", x -> x.put(0, 10, 1), x -> x.forged(0, 1), Tape.STATE);
        Twins.refused(due, "a ROW less", x -> x.take(0, 270), x -> x.forged(0, 1), Tape.STATE);
        Twins.refused(due, "TABLE b has changed", x -> x.put(0, 10, 1), x -> x.forged(4, 1), Tape.STATE);
        Twins.refused(due, "BAD ahead of it", x -> x.put(0, 10, 1), x -> x.forged(0, 0), Tape.BAD);
        ProvenRows x = Three.planned("probe 0 40;range 1 0 999;join 1 0 0 9;");
        x.put(0, 10, 6);
        due.is("not of the latest ROUND", x.forged(0, 1), Tape.STATE);
        due.is("another TABLE", x.forged(1, 1), 0);
        due.is("a JOIN without ROWS shows nothing of b", x.forged(2, 1), 0);
        x.round();
        due.is("of the latest ROUND", x.forged(0, 1), 0);
        x.put(0, 10, 5);
        due.is("of an earlier ROUND alone", x.forged(0, 1), Tape.STATE);
    }

    /** It is no CHECK, and leaves SHEETS and TABLES. */
    private static void changesNothing() {
        ProvenRows x = Three.given("range 0 0 999;sum 0 0 999;", Three.WHOLE);
        x.check(0, 0, 7, 0, 20);
        x.drop(0);
        due.is("forged", x.forged(1, 3), 0);
        due.is("why()", x.why(), 0);
        due.areAll("read", x::read, 10, 5, 20, 6, 30, 7);
        due.is("status()", x.status(), 1);
        due.is("the SHEET", x.check(0, 0, 7, 0, 20), 1);
        due.is("the SEAL", x.told(0, 1), x.seal(0, 0));
    }

    /** Every KIND of ACT, of full TABLES and of empty ones. */
    private static void fullAndEmpty() {
        ProvenRows x = new ProvenRows();
        for (int i = 0; i < 14; i++) {
            x.put(0, 71 * i, 999 - i);
        }
        x.round();
        Tape.plan(x, "range 0 0 999;sum 0 0 999;first 0 0 14;probe 0 71;merge 0 0 0 999;range 1 0 9;join 1 0 0 9;");
        for (int act = 0; act < 7; act++) {
            due.isTrue("ACT " + act, x.forged(act, 1) >= 0);
        }
        due.is("all are SHOWN: KEYS and VALUES more by 1 make other SEALS", x.forged(5, 1), 0);
    }

    public static void main(String[] args) {
        theOtherRoot();
        ofAllProofs();
        theFirstPlace();
        theLastPlace();
        asCheckCountsIt();
        bad();
        noRound();
        wouldNotBeTaken();
        changesNothing();
        fullAndEmpty();
        due.end();
    }
}
