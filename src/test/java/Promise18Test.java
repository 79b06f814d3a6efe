/** Promise 18: why. */
public final class Promise18Test {
    private static final Due due = new Due("Promise18Test");
    private static final int[] HIDDEN = {5, 1, 0, Three.LEFT, 11, 1, 1, 30, 7, 1, 1000, 0};

    private static void whyIs(ProvenRows x, int[] numbers, int want) {
        Tape.fill(x, numbers);
        x.check(0, 0, 7, 0, numbers.length);
        due.is("WHY", x.why(), want);
        due.is("asked again", x.why(), want);
    }

    /** "(1 to 3; 0: it was taken, or there was none)". */
    private static void each() {
        ProvenRows x = Three.planned("range 0 0 999;");
        due.is("there was none", x.why(), 0);
        whyIs(x, Three.WHOLE, 0);
        whyIs(x, Three.with(Three.WHOLE, 0, 1), 1);
        whyIs(x, Three.with(Three.WHOLE, 9, 6), 2);
        whyIs(x, HIDDEN, 3);
    }

    /** "of the latest CHECK": each behind each. */
    private static void theLatest() {
        int[][] numbers = {Three.WHOLE, Three.of(), Three.with(Three.WHOLE, 9, 6), HIDDEN};
        for (int first = 0; first < 4; first++) {
            for (int second = 0; second < 4; second++) {
                ProvenRows x = Three.planned("range 0 0 999;");
                whyIs(x, numbers[first], first);
                whyIs(x, numbers[second], second);
            }
        }
    }

    /** A check() that is refused, or in which something is found, is no CHECK; no other call is one, either. */
    private static void noCheck() {
        int[][] numbers = {Three.WHOLE, Three.of(), Three.with(Three.WHOLE, 9, 6), HIDDEN};
        for (int why = 0; why < 4; why++) {
            ProvenRows x = Three.planned("range 0 0 999;");
            whyIs(x, numbers[why], why);
            x.sheet(0, 2, 5);
            x.check(0, 0, 0, 0, 601);
            due.is("behind BAD", x.why(), why);
            x.check(0, 0, 1, 0, 5);
            due.is("behind NULL", x.why(), why);
            x.check(0, 0, 0, 1, 5);
            due.is("behind PLACE", x.why(), why);
            x.put(0, 10, 5);
            x.forged(0, 1);
            x.put(0, 10, 6);
            x.forged(0, 1);
            x.round();
            x.write(0, 0, 0);
            x.drop(7);
            Tape.plan(x, "?");
            x.ask(0, 0);
            x.read(0);
            due.is("behind other calls", x.why(), why);
        }
    }

    public static void main(String[] args) {
        each();
        theLatest();
        noCheck();
        due.end();
    }
}
