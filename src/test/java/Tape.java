import java.nio.charset.StandardCharsets;

/** Feeds texts to an object, eight bytes at a time. */
final class Tape {
    static final int BAD = ProvenRows.BAD, NONE = ProvenRows.NONE, STATE = ProvenRows.STATE, FULL = ProvenRows.FULL;
    static final int NULL = -1000011, PLACE = -1000012, KIND = -1000013, SIZE = -1000014, STORE = -1000015;

    private Tape() {
    }

    static void feed(ProvenRows x, String text) {
        byte[] bytes = text.getBytes(StandardCharsets.ISO_8859_1);
        for (int from = 0; from < bytes.length; from += 8) {
            int n = Math.min(8, bytes.length - from);
            long w = 0;
            for (int k = 0; k < n; k++) {
                w = w << 8 | bytes[from + k] & 255;
            }
            x.feed(w, n);
        }
    }

    static int plan(ProvenRows x, String text) {
        feed(x, text);
        return x.plan();
    }

    /** A TABLE with KEYS and VALUES told in turn. */
    static void rows(ProvenRows x, int table, int... keysAndValues) {
        for (int i = 0; i < keysAndValues.length; i += 2) {
            x.put(table, keysAndValues[i], keysAndValues[i + 1]);
        }
    }

    /** Numbers into SHEET 7, of ints. */
    static void fill(ProvenRows x, int... numbers) {
        x.sheet(7, 2, numbers.length);
        for (int i = 0; i < numbers.length; i++) {
            x.set(7, i, numbers[i]);
        }
    }

    static int j(long a, long b) {
        return (int) ((31 * a * a + 17 * b + 101) % 65521);
    }

    static int leaf(int key, int value) {
        return j(j(key + 1, value), 7);
    }

    static int fork(int leftSeal, int leftSum, int rightSeal, int rightSum) {
        return j(j(leftSeal, rightSeal), j(leftSum, rightSum));
    }
}
