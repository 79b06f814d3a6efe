import java.util.Random;

/** Rule 7 of LANGUAGE.md: no call throws, for any arguments in any state, be it beyond the 512th. */
public final class NeverThrowsTest {
    private static final Due due = new Due("NeverThrowsTest");
    private static final int RUNS = 40, CALLS = 5000;
    private static final int[] NUMBERS = {0, 1, 2, 3, 5, 7, 8, 10, 13, 14, 15, 16, 19, 20, 21, 199, 200, 201, 599, 600,
        601, 999, 1000, 14000, 14001, 65520, 65521, -1, -2, -600, ProvenRows.NONE, ProvenRows.NONE - 1,
        Integer.MAX_VALUE, Integer.MAX_VALUE - 599, Integer.MIN_VALUE, Integer.MIN_VALUE + 1};
    private static final String[] TEXTS = {"range 0 0 999;", "sum 1 0 999;", "first 2 5 14;", "probe 0 7;",
        "join 0 1 0 999;", "merge 1 2 0 999;", "not 2 0 0 999;", "?", "sum 9", " "};

    private final Random random;
    private final ProvenRows x = new ProvenRows();

    private NeverThrowsTest(int run) {
        random = new Random(run);
    }

    private int any() {
        return random.nextInt(3) == 0 ? NUMBERS[random.nextInt(NUMBERS.length)] : random.nextInt(9);
    }

    private int call(int which) {
        switch (which) {
            case 0: return x.sheet(any(), any(), any());
            case 1: return x.set(any(), any(), any());
            case 2: return x.copy(any(), any(), any(), any(), any());
            case 3: return x.drop(any());
            case 4: return x.put(any(), any(), any());
            case 5: return x.take(any(), any());
            case 6: return x.told(any(), any());
            case 7: return x.round();
            case 8: return x.seal(any(), any());
            case 9: return x.feed(random.nextLong(), any());
            case 10: return x.plan();
            case 11: return x.fault();
            case 12: return x.proof(any(), any());
            case 13: return x.answer(any(), any());
            case 14: return x.write(any(), any(), any());
            case 15: return x.check(any(), any(), any(), any(), any());
            case 16: return x.why();
            case 17: return x.read(any());
            case 18: return x.fewer(any(), any(), any(), any());
            case 19: return x.forged(any(), any());
            case 20: return x.kind(any());
            case 21: return x.as(any(), any());
            case 22: return x.ask(any(), any());
            case 23: return x.trace(any());
            case 24: return x.count(any());
            case 25: return x.status();
            default: return Tape.plan(x, TEXTS[random.nextInt(TEXTS.length)]);
        }
    }

    public static void main(String[] args) {
        for (int run = 0; run < RUNS; run++) {
            NeverThrowsTest each = new NeverThrowsTest(run);
            boolean fine = true;
            for (int call = 0; call < CALLS && fine; call++) {
                int which = each.random.nextInt(28);
                try {
                    each.call(which);
                } catch (RuntimeException thrown) {
                    fine = false;
                    System.out.println("call " + call + " of kind " + which + " threw " + thrown);
                }
            }
            due.isTrue("run " + run, fine);
        }
        due.end();
    }
}
