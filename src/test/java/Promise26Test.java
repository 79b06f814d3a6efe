/** Promise 26: count. */
public final class Promise26Test {
    private static final Due due = new Due("Promise26Test");

    private static void countsAre(String name, ProvenRows x, int... want) {
        for (int what = 0; what < 6; what++) {
            due.is(name + ": count(" + what + ")", x.count(what), want[what]);
        }
    }

    /** Each of them none. */
    private static void none() {
        countsAre("a new object", new ProvenRows(), 0, 0, 0, 0, 0, 0);
    }

    /** Each of them as many as there can be. */
    private static void most() {
        ProvenRows x = new ProvenRows();
        for (int sheet = 0; sheet < 8; sheet++) {
            x.sheet(sheet, sheet % 3, 0);
        }
        for (int table = 0; table < 3; table++) {
            for (int i = 0; i < 14; i++) {
                x.put(table, i, i);
            }
        }
        for (int round = 0; round < 20; round++) {
            x.round();
        }
        Tape.plan(x, "probe 0 0;".repeat(12));
        Tape.feed(x, " ".repeat(200));
        countsAre("all is full", x, 8, 42, 20, 12, 12, 200);
        x.put(0, 500, 0);
        x.round();
        x.feed(32, 1);
        countsAre("what is refused does not count", x, 8, 42, 20, 12, 12, 200);
    }

    /** Of SHEETS that are missing again, ROWS that went, the tape that was read, a plan with a FAULT. */
    private static void fewerAgain() {
        ProvenRows x = Three.planned("");
        x.sheet(0, 0, 0);
        x.sheet(7, 1, 5);
        x.sheet(7, 2, 600);
        Tape.feed(x, "probe 0 ");
        countsAre("some", x, 2, 4, 1, 0, 0, 8);
        x.drop(0);
        x.take(0, 10);
        x.put(0, 20, 9);
        Tape.plan(x, "?");
        countsAre("fewer", x, 1, 3, 1, 0, 0, 0);
    }

    /** "4 RANGES (ADDS, FIRSTS, PROBES, too)": PAIRS and NOTS are none. */
    private static void ranges() {
        String[] acts = {"range 0 0 0;", "sum 0 0 0;", "first 0 0 1;", "probe 0 0;", "join 0 0 0 0;", "merge 0 0 0 0;", "not 0 0 0 0;"};
        int[] are = {1, 1, 1, 1, 0, 0, 0};
        ProvenRows all = new ProvenRows();
        int ranges = 0;
        for (int word = 0; word < 7; word++) {
            ProvenRows x = new ProvenRows();
            Tape.plan(x, acts[word]);
            due.is("ACTS: " + acts[word], x.count(3), 1);
            due.is("RANGES: " + acts[word], x.count(4), are[word]);
            Tape.plan(all, acts[6 - word]);
            ranges += are[6 - word];
            due.is("RANGES of all up to " + acts[6 - word], all.count(4), ranges);
        }
    }

    /** "BAD". */
    private static void bad() {
        for (int what : Tape.outside(6)) {
            Twins.refused(due, "count(" + what + ")", x -> x.count(what), Tape.BAD);
        }
    }

    public static void main(String[] args) {
        none();
        most();
        fewerAgain();
        ranges();
        bad();
        due.end();
    }
}
