/** Counts answers that are as due, and prints those that are not. */
final class Due {
    private final String name;
    private int right;
    private int wrong;

    Due(String name) {
        this.name = name;
    }

    void is(String call, long got, long want) {
        if (got == want) {
            right++;
            return;
        }
        wrong++;
        System.out.println(name + ": " + call + " answered " + got + ", due is " + want);
    }

    void isTrue(String what, boolean is) {
        is(what, is ? 1 : 0, 1);
    }

    /** Answers that come one behind the other from a call with i = 0, 1, .., and how many from one with i = -1. */
    void areAll(String call, java.util.function.IntUnaryOperator got, int... want) {
        is(call + ", how many", got.applyAsInt(-1), want.length);
        are(call, got, want);
    }

    /** Answers that come one behind the other from a call with i = 0, 1, .. */
    void are(String call, java.util.function.IntUnaryOperator got, int... want) {
        for (int i = 0; i < want.length; i++) {
            is(call + " at " + i, got.applyAsInt(i), want[i]);
        }
        is(call + " behind the last", got.applyAsInt(want.length), ProvenRows.NONE);
    }

    void end() {
        System.out.println(name + ": " + right + " as due, " + wrong + " not as due");
        if (wrong != 0 || right == 0) {
            System.exit(1);
        }
    }
}
