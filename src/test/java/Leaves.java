import java.util.ArrayList;
import java.util.Arrays;
import java.util.List;

/** Leaves of a TABLE as a test has them, and what the document tells of their TREE, by its own recursion. */
final class Leaves {
    private final int[] keys;
    private final int[] values;

    /** ROWS by rising KEYS: KEY, VALUE each; the two leaves that are always there come by themselves. */
    Leaves(int... keysAndValues) {
        int m = keysAndValues.length / 2 + 2;
        keys = new int[m];
        values = new int[m];
        keys[0] = -1;
        keys[m - 1] = 1000;
        for (int i = 0; i < m - 2; i++) {
            keys[i + 1] = keysAndValues[2 * i];
            values[i + 1] = keysAndValues[2 * i + 1];
        }
    }

    static int j(long a, long b) {
        return (int) ((31 * a * a + 17 * b + 101) % 65521);
    }

    static int leaf(int key, int value) {
        return j(j(key + 1, value), 7);
    }

    static int fork(int leftSeal, int leftSum, int rightSeal, int rightSum) {
        return j(j(leftSeal, rightSeal), j(leftSum, rightSum));
    }

    int size() {
        return keys.length;
    }

    int sum(int from, int m) {
        return Arrays.stream(values, from, from + m).sum();
    }

    int seal(int from, int m) {
        if (m == 1) {
            return leaf(keys[from], values[from]);
        }
        int left = (m + 1) / 2;
        return fork(seal(from, left), sum(from, left), seal(from + left, m - left), sum(from + left, m - left));
    }

    int tableSeal() {
        return j(j(seal(0, size()), sum(0, size())), size());
    }

    /** The PROOF in which leaves first to last (by their places) are SHOWN. */
    int[] proof(int first, int last) {
        boolean[] shown = new boolean[size()];
        Arrays.fill(shown, first, last + 1, true);
        return proof(shown);
    }

    int[] proof(boolean[] shown) {
        List<Integer> out = new ArrayList<>();
        out.add(size());
        tell(out, shown, 0, size());
        return out.stream().mapToInt(number -> number).toArray();
    }

    private void tell(List<Integer> out, boolean[] shown, int from, int m) {
        boolean any = false;
        for (int i = from; i < from + m; i++) {
            any |= shown[i];
        }
        out.add(any ? 1 : 0);
        if (!any) {
            out.addAll(List.of(seal(from, m), sum(from, m)));
        } else if (m == 1) {
            out.addAll(List.of(keys[from], values[from]));
        } else {
            int left = (m + 1) / 2;
            tell(out, shown, from, left);
            tell(out, shown, from + left, m - left);
        }
    }
}
