import java.nio.charset.StandardCharsets;

/** What most tests need: answers by their names, texts for the tape, ROWS for a TABLE, numbers for a SHEET. */
final class Tape {
    static final int BAD = ProvenRows.BAD, NONE = ProvenRows.NONE, STATE = ProvenRows.STATE, FULL = ProvenRows.FULL;
    static final int NULL = -1000011, PLACE = -1000012, KIND = -1000013, SIZE = -1000014, STORE = -1000015;
    static final int LEAST = Integer.MIN_VALUE, MOST = Integer.MAX_VALUE;

    private Tape() {
    }

    /** Numbers beside those from 0 to below a bound, and the two farthest. */
    static int[] outside(int bound) {
        return new int[] {-1, bound, LEAST, MOST};
    }

    static void feed(ProvenRows x, String text) {
        byte[] bytes = text.getBytes(StandardCharsets.ISO_8859_1);
        for (int from = 0; from < bytes.length; from += 8) {
            int n = Math.min(8, bytes.length - from);
            long w = 0;
            for (int k = 0; k < n; k++) {
                w = w << 8 | bytes[from + k] & 255;
            }
            x.feed(w, n);
        }
    }

    static int plan(ProvenRows x, String text) {
        feed(x, text);
        return x.plan();
    }

    /** A TABLE with KEYS and VALUES told in turn. */
    static void rows(ProvenRows x, int table, int... keysAndValues) {
        for (int i = 0; i < keysAndValues.length; i += 2) {
            x.put(table, keysAndValues[i], keysAndValues[i + 1]);
        }
    }

    /** Numbers into SHEET 7, of ints. */
    static void fill(ProvenRows x, int... numbers) {
        fillSheet(x, 7, 2, numbers);
    }

    /** Numbers into a SHEET of a LANE that has just as many ITEMS. */
    static void fillSheet(ProvenRows x, int sheet, int lane, int... numbers) {
        x.sheet(sheet, lane, numbers.length);
        for (int i = 0; i < numbers.length; i++) {
            x.set(sheet, i, numbers[i]);
        }
    }
}
