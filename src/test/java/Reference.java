import java.util.ArrayList;
import java.util.List;
import java.util.TreeMap;
import java.util.regex.Matcher;
import java.util.regex.Pattern;

/**
 * The document once more, told in another way: lists, maps, recursion and exceptions, slow and
 * plain. RandomRunsTest holds the class against it.
 */
final class Reference {
    private static final int NONE = -1000000, BAD = -1000001, STATE = -1000002, FULL = -1000003;
    private static final List<String> WORDS = List.of("range", "sum", "first", "probe", "join", "merge", "not");
    private static final List<String> SHAPES = List.of("tlh", "tlh", "tlk", "tl", "ttlh", "ttlh", "ttlh");

    /** A number that does not hold: where, and the WHY. */
    private static final class Wrong extends Exception {
        private static final long serialVersionUID = 1;
        final int place;
        final int why;

        Wrong(int place, int why) {
            this.place = place;
            this.why = why;
        }
    }

    private record Act(int word, int a, int b, int low, int high, int k) {
    }

    private final int[][] items = new int[8][];
    private final int[] lanes = new int[8];
    private final List<TreeMap<Integer, Integer>> tables = List.of(new TreeMap<>(), new TreeMap<>(), new TreeMap<>());
    private final List<int[]> rounds = new ArrayList<>();
    private String tape = "";
    private final List<Act> acts = new ArrayList<>();
    private int fault;
    private int why;
    private List<Integer> read = new ArrayList<>();
    private List<Integer> trace = new ArrayList<>();
    private int status;

    // ---- sheets

    private int found(int finding) {
        status = finding;
        return -1000010 - finding;
    }

    private int fine(int result) {
        status = 0;
        return result;
    }

    int sheet(int sheet, int lane, int n) {
        if (sheet < 0 || sheet > 7 || lane < 0 || lane > 2 || n > 600) return BAD;
        if (n < 0) return found(4);
        items[sheet] = new int[n];
        lanes[sheet] = lane;
        return fine(n);
    }

    int set(int sheet, int i, int v) {
        if (sheet < 0 || sheet > 7) return BAD;
        if (items[sheet] == null) return found(1);
        if (i < 0 || i >= items[sheet].length) return found(2);
        int bits = 8 << lanes[sheet];
        items[sheet][i] = v << (32 - bits) >> (32 - bits);
        return fine(items[sheet][i]);
    }

    int copy(int a, int i, int b, int j, int n) {
        if (a < 0 || a > 7 || b < 0 || b > 7) return BAD;
        if (items[a] == null || items[b] == null) return found(1);
        if (lanes[a] != lanes[b]) return found(5);
        if (i < 0 || j < 0 || n < 0 || (long) i + n > items[a].length || (long) j + n > items[b].length) return found(2);
        int[] before = items[a].clone();
        for (int k = 0; k < n; k++) items[b][j + k] = before[i + k];
        return fine(n);
    }

    int drop(int sheet) {
        if (sheet < 0 || sheet > 7) return BAD;
        if (items[sheet] == null) return found(1);
        int had = items[sheet].length;
        items[sheet] = null;
        return fine(had);
    }

    // ---- tables

    private static int j(long a, long b) {
        return (int) ((31 * a * a + 17 * b + 101) % 65521);
    }

    private List<int[]> leaves(int table) {
        List<int[]> leaves = new ArrayList<>();
        leaves.add(new int[] {-1, 0});
        tables.get(table).forEach((key, value) -> leaves.add(new int[] {key, value}));
        leaves.add(new int[] {1000, 0});
        return leaves;
    }

    private static List<int[]> left(List<int[]> leaves) {
        return leaves.subList(0, (leaves.size() + 1) / 2);
    }

    private static List<int[]> right(List<int[]> leaves) {
        return leaves.subList((leaves.size() + 1) / 2, leaves.size());
    }

    private static int sum(List<int[]> leaves) {
        return leaves.stream().mapToInt(leaf -> leaf[1]).sum();
    }

    private static int sealOf(List<int[]> leaves) {
        if (leaves.size() == 1) return j(j(leaves.get(0)[0] + 1, leaves.get(0)[1]), 7);
        return j(j(sealOf(left(leaves)), sealOf(right(leaves))), j(sum(left(leaves)), sum(right(leaves))));
    }

    private static int tableSeal(List<int[]> leaves) {
        return j(j(sealOf(leaves), sum(leaves)), leaves.size());
    }

    int put(int table, int key, int value) {
        if (table < 0 || table > 2 || key < 0 || key > 999 || value < 0 || value > 999) return BAD;
        if (!tables.get(table).containsKey(key) && tables.get(table).size() == 14) return FULL;
        tables.get(table).put(key, value);
        return tables.get(table).size();
    }

    int take(int table, int key) {
        if (table < 0 || table > 2 || key < 0 || key > 999) return BAD;
        Integer value = tables.get(table).remove(key);
        return value == null ? STATE : value;
    }

    int told(int table, int what) {
        if (table < 0 || table > 2 || what < 0 || what > 3) return BAD;
        List<int[]> leaves = leaves(table);
        return new int[] {leaves.size() - 2, tableSeal(leaves), sealOf(leaves), sum(leaves)}[what];
    }

    int round() {
        if (rounds.size() == 20) return FULL;
        int[] round = {told(0, 1), told(1, 1), told(2, 1), 0};
        int own = j(j(round[0], round[1]), round[2]);
        round[3] = rounds.isEmpty() ? own : j(rounds.get(rounds.size() - 1)[3], own);
        rounds.add(round);
        return rounds.size() - 1;
    }

    int seal(int round, int what) {
        if (round < 0 || round >= rounds.size() || what < 0 || what > 3) return BAD;
        return rounds.get(round)[what];
    }

    // ---- plans

    int feed(long w, int n) {
        if (n < 1 || n > 8) return BAD;
        if (tape.length() + n > 200) return FULL;
        for (int k = n - 1; k >= 0; k--) tape += (char) (w >> 8 * k & 255);
        return tape.length();
    }

    int plan() {
        String text = tape;
        tape = "";
        List<Act> more = new ArrayList<>();
        Matcher tokens = Pattern.compile("[a-z]+|[0-9]+|[^ \n]").matcher(text);
        while (true) {
            String word = tokens.find() ? tokens.group() : "";
            int at = word.isEmpty() ? text.length() : tokens.start();
            if (word.isEmpty()) break;
            if (!WORDS.contains(word)) return faulty(1, at);
            if (acts.size() + more.size() == 12) return faulty(3, at);
            String shape = SHAPES.get(WORDS.indexOf(word));
            int[] n = new int[shape.length()];
            for (int k = 0; k <= shape.length(); k++) {
                String token = tokens.find() ? tokens.group() : "";
                at = token.isEmpty() ? text.length() : tokens.start();
                if (k == shape.length()) {
                    if (!token.equals(";")) return faulty(1, at);
                } else {
                    if (!token.matches("[0-9]{1,3}")) return faulty(1, at);
                    n[k] = Integer.parseInt(token);
                    char role = shape.charAt(k);
                    if (role == 't' && n[k] > 2) return faulty(2, at);
                    if (role == 'h' && n[k] < n[k - 1]) return faulty(2, at);
                    if (role == 'k' && (n[k] < 1 || n[k] > 14)) return faulty(2, at);
                }
            }
            int code = WORDS.indexOf(word);
            if (code >= 4) more.add(new Act(code, n[0], n[1], n[2], n[3], 0));
            else if (code == 3) more.add(new Act(code, n[0], n[0], n[1], n[1], 0));
            else if (code == 2) more.add(new Act(code, n[0], n[0], n[1], 999, n[2]));
            else more.add(new Act(code, n[0], n[0], n[1], n[2], 0));
        }
        acts.addAll(more);
        return acts.size();
    }

    private int faulty(int number, int at) {
        fault = number;
        return -1000100 - at;
    }

    int fault() {
        return fault;
    }

    private boolean noAct(int act) {
        return act < 0 || act >= acts.size();
    }

    private static void tell(List<Integer> out, List<int[]> leaves, List<int[]> shown) {
        if (leaves.stream().noneMatch(shown::contains)) {
            out.addAll(List.of(0, sealOf(leaves), sum(leaves)));
            return;
        }
        out.add(1);
        if (leaves.size() == 1) {
            out.addAll(List.of(leaves.get(0)[0], leaves.get(0)[1]));
            return;
        }
        tell(out, left(leaves), shown);
        tell(out, right(leaves), shown);
    }

    private static List<int[]> within(List<int[]> leaves, int low, int high) {
        return leaves.stream().filter(leaf -> leaf[0] >= low && leaf[0] <= high).toList();
    }

    private static List<Integer> proofOf(int word, List<int[]> leaves, int low, int high, int k) {
        List<int[]> ahead = within(leaves, -1, low - 1);
        List<int[]> rows = within(leaves, low, high);
        List<int[]> behind = within(leaves, high + 1, 1000);
        List<int[]> shown = new ArrayList<>();
        shown.add(ahead.get(ahead.size() - 1));
        if (word == 2) {
            shown.addAll(within(leaves, low, 1000).stream().limit(k).toList());
        } else {
            if (word != 1) shown.addAll(rows);
            else if (!rows.isEmpty()) shown.addAll(List.of(rows.get(0), rows.get(rows.size() - 1)));
            shown.add(behind.get(0));
        }
        List<Integer> out = new ArrayList<>(List.of(leaves.size()));
        tell(out, leaves, shown);
        return out;
    }

    private List<Integer> proofs(Act act) {
        List<Integer> out = new ArrayList<>(proofOf(act.word, leaves(act.a), act.low, act.high, act.k));
        if (act.word == 5) out.addAll(proofOf(0, leaves(act.b), act.low, act.high, 0));
        if (act.word == 4 || act.word == 6) {
            for (int[] row : within(leaves(act.a), act.low, act.high)) {
                out.addAll(proofOf(3, leaves(act.b), row[0], row[0], 0));
            }
        }
        return out;
    }

    private static int numberOf(List<Integer> numbers, int i) {
        return i == -1 ? numbers.size() : i < numbers.size() ? numbers.get(i) : NONE;
    }

    int proof(int act, int i) {
        return noAct(act) || i < -1 ? BAD : numberOf(proofs(acts.get(act)), i);
    }

    private List<Integer> answers(Act act) {
        List<Integer> out = new ArrayList<>();
        TreeMap<Integer, Integer> b = tables.get(act.b);
        List<int[]> rows = within(leaves(act.a), act.low, act.word == 2 ? 999 : act.high);
        if (act.word == 1) return List.of(Math.min(2, rows.size()), sum(rows));
        if (act.word == 2) rows = rows.stream().limit(act.k).toList();
        for (int[] row : rows) {
            boolean both = b.containsKey(row[0]);
            if (act.word == 4 || act.word == 5) {
                if (both) out.addAll(List.of(row[0], row[1], b.get(row[0])));
            } else if (act.word != 6 || !both) {
                out.addAll(List.of(row[0], row[1]));
            }
        }
        return out;
    }

    int answer(int act, int i) {
        return noAct(act) || i < -1 ? BAD : numberOf(answers(acts.get(act)), i);
    }

    int write(int act, int sheet, int i) {
        if (noAct(act) || sheet < 0 || sheet > 7) return BAD;
        if (items[sheet] == null) return found(1);
        List<Integer> numbers = proofs(acts.get(act));
        if (i < 0 || (long) i + numbers.size() > items[sheet].length) return found(2);
        if (lanes[sheet] != 2) return found(5);
        for (int k = 0; k < numbers.size(); k++) items[sheet][i + k] = numbers.get(k);
        return fine(numbers.size());
    }

    // ---- the checker

    private List<Integer> given;
    private int at;
    /** Of the PROOF that is read: leaves that are SHOWN, {place, KEY, VALUE}; what is not, {place, SUM}. */
    private List<int[]> shown;
    private List<int[]> hidden;
    private int m;

    private int next(int least, int most) throws Wrong {
        if (at == given.size() || given.get(at) < least || given.get(at) > most) throw new Wrong(at, 1);
        return given.get(at++);
    }

    private int[] readTree(int from, int n) throws Wrong {
        if (next(0, 1) == 0) {
            int[] sealAndSum = {next(0, 65520), next(0, 14000)};
            hidden.add(new int[] {from, sealAndSum[1]});
            return sealAndSum;
        }
        if (n == 1) {
            int key;
            int value;
            if (from == 0) {
                key = next(-1, -1);
                value = next(0, 0);
            } else if (from == m - 1) {
                key = next(1000, 1000);
                value = next(0, 0);
            } else {
                int last = shown.isEmpty() ? -1 : shown.get(shown.size() - 1)[1];
                key = next(Math.max(0, last + 1), 999);
                value = next(0, 999);
            }
            shown.add(new int[] {from, key, value});
            return new int[] {j(j(key + 1, value), 7), value};
        }
        int half = (n + 1) / 2;
        int[] l = readTree(from, half);
        int[] r = readTree(from + half, n - half);
        return new int[] {j(j(l[0], r[0]), j(l[1], r[1])), l[1] + r[1]};
    }

    private List<int[]> readProof(int word, int seal, int low, int high, int k) throws Wrong {
        shown = new ArrayList<>();
        hidden = new ArrayList<>();
        m = next(2, 16);
        int[] top = readTree(0, m);
        if (j(j(top[0], top[1]), m) != seal) throw new Wrong(at, 2);
        int[] x = null;
        int[] y = null;
        for (int[] leaf : shown) {
            if (leaf[1] < low) x = leaf;
            if (leaf[1] > high && y == null) y = leaf;
        }
        if (x == null || word != 2 && y == null) throw new Wrong(at, 3);
        List<int[]> rows = new ArrayList<>();
        for (int[] leaf : shown) {
            if (leaf[0] > x[0] && (word == 2 ? leaf[0] <= x[0] + k : leaf[0] < y[0])) rows.add(leaf);
        }
        boolean enough;
        if (word == 2) {
            enough = rows.size() == Math.min(k, m - 1 - x[0]);
            rows.removeIf(leaf -> leaf[1] == 1000);
        } else if (word == 1) {
            enough = rows.isEmpty() ? y[0] == x[0] + 1
                : rows.get(0)[0] == x[0] + 1 && rows.get(rows.size() - 1)[0] == y[0] - 1;
        } else {
            enough = rows.size() == y[0] - x[0] - 1;
        }
        if (!enough) throw new Wrong(at, 3);
        if (word == 1) {
            int sum = rows.stream().mapToInt(leaf -> leaf[2]).sum();
            for (int[] part : hidden) sum += part[0] > x[0] && part[0] < y[0] ? part[1] : 0;
            return List.of(new int[] {0, rows.size(), sum});
        }
        return rows;
    }

    private List<Integer> readAll(Act act, int[] round, List<Integer> numbers) throws Wrong {
        given = numbers;
        at = 0;
        List<Integer> out = new ArrayList<>();
        List<int[]> rows = readProof(act.word, round[act.a], act.low, act.high, act.k);
        List<int[]> others = act.word == 5 ? readProof(0, round[act.b], act.low, act.high, 0) : new ArrayList<>();
        if (act.word == 4 || act.word == 6) {
            for (int[] row : rows) others.addAll(readProof(3, round[act.b], row[1], row[1], 0));
        }
        if (at < numbers.size()) throw new Wrong(at, 1);
        for (int[] row : rows) {
            int[] match = others.stream().filter(other -> other[1] == row[1]).findFirst().orElse(null);
            if (act.word < 4 || act.word == 6 && match == null) out.addAll(List.of(row[1], row[2]));
            if ((act.word == 4 || act.word == 5) && match != null) out.addAll(List.of(row[1], row[2], match[2]));
        }
        return out;
    }

    int check(int act, int round, int sheet, int i, int n) {
        if (noAct(act) || round < 0 || round >= rounds.size() || sheet < 0 || sheet > 7) return BAD;
        if (n != NONE && (n < 0 || n > 600)) return BAD;
        if (items[sheet] == null) return found(1);
        int many = n == NONE ? proofs(acts.get(act)).size() : n;
        if (i < 0 || (long) i + many > items[sheet].length) return found(2);
        List<Integer> numbers = new ArrayList<>();
        for (int k = 0; k < many; k++) numbers.add(items[sheet][i + k]);
        read = new ArrayList<>();
        try {
            read = readAll(acts.get(act), rounds.get(round), numbers);
            why = 0;
            return fine(1);
        } catch (Wrong wrong) {
            why = wrong.why;
            return fine(-1000200 - wrong.place);
        }
    }

    int why() {
        return why;
    }

    int read(int i) {
        return i < -1 ? BAD : numberOf(read, i);
    }

    int fewer(int a, int b, int low, int high) {
        if (a < 0 || a > 2 || b < 0 || b > 2 || low < 0 || high > 999 || high < low) return BAD;
        return proofs(new Act(4, a, b, low, high, 0)).size() <= proofs(new Act(5, a, b, low, high, 0)).size() ? 4 : 5;
    }

    private boolean isTaken(Act act, List<Integer> numbers) {
        try {
            readAll(act, rounds.get(rounds.size() - 1), numbers);
            return true;
        } catch (Wrong wrong) {
            return false;
        }
    }

    int forged(int act, int d) {
        if (noAct(act) || d < 1 || d > 65520) return BAD;
        List<Integer> honest = proofs(acts.get(act));
        if (rounds.isEmpty() || !isTaken(acts.get(act), honest)) return STATE;
        int taken = 0;
        for (int k = 0; k < honest.size(); k++) {
            List<Integer> forged = new ArrayList<>(honest);
            forged.set(k, honest.get(k) + d);
            if (isTaken(acts.get(act), forged)) taken++;
        }
        return taken;
    }

    // ---- asked

    private class AnyAct {
        final int number;

        AnyAct(int number) {
            this.number = number;
        }

        Act act() {
            return acts.get(number);
        }

        int size() {
            trace.add(10);
            return proofs(act()).size();
        }

        int mark() {
            trace.add(20);
            return number;
        }
    }

    private class Range extends AnyAct {
        Range(int number) {
            super(number);
        }

        @Override int size() {
            trace.add(11);
            int size = super.size();
            return size + mark();
        }

        @Override int mark() {
            trace.add(21);
            return super.mark() + tables.get(act().a).size();
        }
    }

    private class Add extends Range {
        Add(int number) {
            super(number);
        }

        @Override int size() {
            trace.add(12);
            return super.size() * 2;
        }
    }

    private class First extends Range {
        First(int number) {
            super(number);
        }
    }

    private class Probe extends Range {
        Probe(int number) {
            super(number);
        }

        @Override int mark() {
            trace.add(22);
            return super.mark() * 2;
        }
    }

    private class Pair extends AnyAct {
        Pair(int number) {
            super(number);
        }

        @Override int size() {
            trace.add(13);
            return super.size() + tables.get(act().b).size();
        }

        @Override int mark() {
            trace.add(23);
            return super.mark() + 100;
        }
    }

    private class Not extends Pair {
        Not(int number) {
            super(number);
        }

        @Override int size() {
            trace.add(14);
            int size = super.size();
            return size - mark();
        }
    }

    private AnyAct asked(int act) {
        switch (acts.get(act).word) {
            case 0: return new Range(act);
            case 1: return new Add(act);
            case 2: return new First(act);
            case 3: return new Probe(act);
            case 6: return new Not(act);
            default: return new Pair(act);
        }
    }

    private static final List<Class<?>> KINDS =
        List.of(AnyAct.class, Range.class, Add.class, First.class, Probe.class, Pair.class, Not.class);

    int kind(int act) {
        return noAct(act) ? BAD : KINDS.indexOf(asked(act).getClass());
    }

    int as(int act, int kind) {
        if (noAct(act) || kind < 0 || kind > 6) return BAD;
        return KINDS.get(kind).isInstance(asked(act)) ? fine(acts.get(act).a) : found(3);
    }

    int ask(int act, int what) {
        if (noAct(act) || what < 0 || what > 1) return BAD;
        trace = new ArrayList<>();
        return what == 0 ? asked(act).size() : asked(act).mark();
    }

    int trace(int i) {
        return i < 0 || i >= Math.min(16, trace.size()) ? NONE : trace.get(i);
    }

    int count(int what) {
        switch (what) {
            case 0: return (int) java.util.Arrays.stream(items).filter(sheet -> sheet != null).count();
            case 1: return tables.stream().mapToInt(TreeMap::size).sum();
            case 2: return rounds.size();
            case 3: return acts.size();
            case 4: return (int) acts.stream().filter(act -> act.word < 4).count();
            case 5: return tape.length();
            default: return BAD;
        }
    }

    int status() {
        return status;
    }
}
