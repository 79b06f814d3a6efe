/** Promise 13: fault. */
public final class Promise13Test {
    private static final Due due = new Due("Promise13Test");

    private static void faultIs(ProvenRows x, String text, int want) {
        Tape.plan(x, text);
        due.is("behind '" + text + "'", x.fault(), want);
    }

    /** "0 before one": plans that are read well, and refused calls, are none. */
    private static void zeroBeforeOne() {
        ProvenRows x = new ProvenRows();
        due.is("a new object", x.fault(), 0);
        faultIs(x, "", 0);
        faultIs(x, "range 0 0 0;", 0);
        x.feed(0, 9);
        x.kind(9);
        x.drop(0);
        Tape.feed(x, "?");
        due.is("a FAULT that is not read", x.fault(), 0);
    }

    /** "The number of the latest FAULT": each of them behind each. */
    private static void theLatest() {
        String twelve = "sum 0 0 0;".repeat(12);
        String[] texts = {"?", "sum 3 0 0;", twelve + "sum 0 0 0;"};
        for (int first = 1; first <= 3; first++) {
            for (int second = 1; second <= 3; second++) {
                ProvenRows x = new ProvenRows();
                faultIs(x, texts[first - 1], first);
                faultIs(x, texts[second - 1], second);
                due.is("asked again", x.fault(), second);
            }
        }
    }

    /** A plan that is read well is no FAULT, and leaves the latest one. */
    private static void staysBehindAGoodPlan() {
        ProvenRows x = new ProvenRows();
        faultIs(x, "sum 0 5 4;", 2);
        faultIs(x, "sum 0 5 5;", 2);
        faultIs(x, "", 2);
        due.is("ACTS", x.count(3), 1);
        faultIs(x, "sum", 1);
        faultIs(x, "sum 0 0 0;", 1);
        due.is("ACTS", x.count(3), 2);
    }

    public static void main(String[] args) {
        zeroBeforeOne();
        theLatest();
        staysBehindAGoodPlan();
        due.end();
    }
}
