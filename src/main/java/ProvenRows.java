import java.util.Arrays;

/**
 * Tables sealed as trees over their rows, acts that prove their answers, and a checker that has
 * nothing but a seal in hand. The words in capitals are those of the document.
 */
public final class ProvenRows {
    public static final int NONE = -1000000, BAD = -1000001, STATE = -1000002, FULL = -1000003;

    private static final int FINDING = -1000010, FAULT_AT = -1000100, WRONG_AT = -1000200;
    private static final int NULL = 1, PLACE = 2, OTHER_KIND = 3, SIZE = 4, STORE = 5;

    private static final int SHEETS = 8, LANES = 3, MOST_ITEMS = 600;
    private static final int TABLES = 3, MOST_LEAVES = 16, FIRST_KEY = -1, LAST_KEY = 1000;
    private static final int MOST_VALUE = 999, MOST_SUM = 14000, PRIME = 65521;
    private static final int MOST_ROUNDS = 20, ROUND_NUMBERS = 4, LINE = 3;
    private static final int MOST_ACTS = 12, KINDS = 7, MOST_FED = 8, MOST_FORGERY = 65520;

    private static final int RANGE = 0, SUM = 1, FIRST = 2, PROBE = 3, JOIN = 4, MERGE = 5, NOT = 6;

    private final Sheet[] sheets = new Sheet[SHEETS];
    private final Table[] tables = new Table[TABLES];
    private final int[] roundNumbers = new int[MOST_ROUNDS * ROUND_NUMBERS];
    private int rounds;
    private final Plans plans = new Plans();
    private final Prover prover = new Prover();
    private final Checker checker = new Checker();
    /** Forgeries have a checker of their own: why() and read() tell of check() alone. */
    private final Checker forgeries = new Checker();
    private final Asks asks = new Asks();
    private int finding;

    public ProvenRows() {
        for (int i = 0; i < SHEETS; i++) {
            sheets[i] = new Sheet();
        }
        for (int i = 0; i < TABLES; i++) {
            tables[i] = new Table();
        }
    }

    // ---- sheets

    public int sheet(int sheet, int lane, int n) {
        if (!isWithin(sheet, SHEETS) || !isWithin(lane, LANES) || n > MOST_ITEMS) {
            return BAD;
        }
        if (n < 0) {
            return found(SIZE);
        }
        sheets[sheet].begin(lane, n);
        return fine(n);
    }

    public int set(int sheet, int i, int v) {
        if (!isWithin(sheet, SHEETS)) {
            return BAD;
        }
        if (sheets[sheet].isMissing()) {
            return found(NULL);
        }
        if (!sheets[sheet].hasItems(i, 1)) {
            return found(PLACE);
        }
        return fine(sheets[sheet].store(i, v));
    }

    public int copy(int a, int i, int b, int j, int n) {
        if (!isWithin(a, SHEETS) || !isWithin(b, SHEETS)) {
            return BAD;
        }
        if (sheets[a].isMissing() || sheets[b].isMissing()) {
            return found(NULL);
        }
        if (sheets[a].lane() != sheets[b].lane()) {
            return found(STORE);
        }
        if (!sheets[a].hasItems(i, n) || !sheets[b].hasItems(j, n)) {
            return found(PLACE);
        }
        sheets[b].storeItems(sheets[a], i, j, n);
        return fine(n);
    }

    public int drop(int sheet) {
        if (!isWithin(sheet, SHEETS)) {
            return BAD;
        }
        if (sheets[sheet].isMissing()) {
            return found(NULL);
        }
        int had = sheets[sheet].size();
        sheets[sheet].lose();
        return fine(had);
    }

    // ---- tables

    public int put(int table, int key, int value) {
        if (!isWithin(table, TABLES) || !isWithin(key, LAST_KEY) || value < 0 || value > MOST_VALUE) {
            return BAD;
        }
        return tables[table].store(key, value) ? tables[table].rows() : FULL;
    }

    public int take(int table, int key) {
        if (!isWithin(table, TABLES) || !isWithin(key, LAST_KEY)) {
            return BAD;
        }
        int leaf = tables[table].leaves().placeOf(key);
        if (leaf < 0) {
            return STATE;
        }
        int value = tables[table].leaves().valueAt(leaf);
        tables[table].remove(leaf);
        return value;
    }

    public int told(int table, int what) {
        if (!isWithin(table, TABLES)) {
            return BAD;
        }
        switch (what) {
            case 0: return tables[table].rows();
            case 1: return tables[table].tree().tableSeal();
            case 2: return tables[table].tree().sealOf(Tree.TOP);
            case 3: return tables[table].tree().sumOf(Tree.TOP);
            default: return BAD;
        }
    }

    public int round() {
        if (rounds >= MOST_ROUNDS) {
            return FULL;
        }
        int from = rounds * ROUND_NUMBERS;
        for (int i = 0; i < TABLES; i++) {
            roundNumbers[from + i] = tables[i].tree().tableSeal();
        }
        int own = mix(mix(roundNumbers[from], roundNumbers[from + 1]), roundNumbers[from + 2]);
        roundNumbers[from + LINE] = rounds == 0 ? own : mix(roundNumber(rounds - 1, LINE), own);
        rounds++;
        return rounds - 1;
    }

    public int seal(int round, int what) {
        if (!isWithin(round, rounds) || !isWithin(what, ROUND_NUMBERS)) {
            return BAD;
        }
        return roundNumber(round, what);
    }

    // ---- plans

    public int feed(long w, int n) {
        if (n < 1 || n > MOST_FED) {
            return BAD;
        }
        return plans.append(w, n) ? plans.bytes() : FULL;
    }

    public int plan() {
        int faultAt = plans.readTape();
        return faultAt < 0 ? plans.acts() : FAULT_AT - faultAt;
    }

    public int fault() {
        return plans.latestFault();
    }

    public int proof(int act, int i) {
        Act asked = plans.act(act);
        if (asked == null || i < -1) {
            return BAD;
        }
        return prover.proofsOf(asked, tables).numberOrSize(i);
    }

    public int answer(int act, int i) {
        Act asked = plans.act(act);
        if (asked == null || i < -1) {
            return BAD;
        }
        return prover.answerOf(asked, tables).numberOrSize(i);
    }

    public int write(int act, int sheet, int i) {
        Act asked = plans.act(act);
        if (asked == null || !isWithin(sheet, SHEETS)) {
            return BAD;
        }
        if (sheets[sheet].isMissing()) {
            return found(NULL);
        }
        Numbers proofs = prover.proofsOf(asked, tables);
        if (!sheets[sheet].hasItems(i, proofs.size())) {
            return found(PLACE);
        }
        if (sheets[sheet].lane() != Sheet.INTS) {
            return found(STORE);
        }
        for (int k = 0; k < proofs.size(); k++) {
            sheets[sheet].store(i + k, proofs.at(k));
        }
        return fine(proofs.size());
    }

    public int check(int act, int round, int sheet, int i, int n) {
        Act asked = plans.act(act);
        if (asked == null || !isWithin(round, rounds) || !isWithin(sheet, SHEETS)) {
            return BAD;
        }
        if (n != NONE && !isWithin(n, MOST_ITEMS + 1)) {
            return BAD;
        }
        if (sheets[sheet].isMissing()) {
            return found(NULL);
        }
        int many = n == NONE ? prover.proofsOf(asked, tables).size() : n;
        if (!sheets[sheet].hasItems(i, many)) {
            return found(PLACE);
        }
        checker.given().clear();
        for (int k = 0; k < many; k++) {
            checker.given().add(sheets[sheet].item(i + k));
        }
        boolean taken = checker.takes(asked, roundNumber(round, asked.a), roundNumber(round, asked.b));
        return fine(taken ? 1 : WRONG_AT - checker.wrong());
    }

    public int why() {
        return checker.reason();
    }

    public int read(int i) {
        return i < -1 ? BAD : checker.result().numberOrSize(i);
    }

    public int fewer(int a, int b, int low, int high) {
        if (!isWithin(a, TABLES) || !isWithin(b, TABLES)) {
            return BAD;
        }
        if (low < 0 || high >= LAST_KEY || high < low) {
            return BAD;
        }
        int joined = prover.proofsOf(new Act(JOIN, a, b, low, high, 0), tables).size();
        int merged = prover.proofsOf(new Act(MERGE, a, b, low, high, 0), tables).size();
        return merged < joined ? MERGE : JOIN;
    }

    public int forged(int act, int d) {
        Act asked = plans.act(act);
        if (asked == null || d < 1 || d > MOST_FORGERY) {
            return BAD;
        }
        if (rounds == 0) {
            return STATE;
        }
        int sealA = roundNumber(rounds - 1, asked.a);
        int sealB = roundNumber(rounds - 1, asked.b);
        Numbers numbers = forgeries.given();
        numbers.become(prover.proofsOf(asked, tables));
        if (!forgeries.takes(asked, sealA, sealB)) {
            return STATE;
        }
        int taken = 0;
        for (int k = 0; k < numbers.size(); k++) {
            int honest = numbers.at(k);
            numbers.replace(k, honest + d);
            taken += forgeries.takes(asked, sealA, sealB) ? 1 : 0;
            numbers.replace(k, honest);
        }
        return taken;
    }

    // ---- asked

    public int kind(int act) {
        Act asked = plans.act(act);
        return asked == null ? BAD : asked.ownKind();
    }

    public int as(int act, int kind) {
        Act asked = plans.act(act);
        if (asked == null || !isWithin(kind, KINDS)) {
            return BAD;
        }
        return asked.isOf(kind) ? fine(asked.a) : found(OTHER_KIND);
    }

    public int ask(int act, int what) {
        Act asked = plans.act(act);
        if (asked == null || !isWithin(what, 2)) {
            return BAD;
        }
        asks.begin(act, asked.ownKind(), prover.proofsOf(asked, tables).size());
        asks.beginRows(tables[asked.a].rows(), tables[asked.b].rows());
        return what == 0 ? asks.sizeOfAct() : asks.markOfAct();
    }

    public int trace(int i) {
        return asks.traced(i);
    }

    public int count(int what) {
        switch (what) {
            case 0: return sheetsThere();
            case 1: return tables[0].rows() + tables[1].rows() + tables[2].rows();
            case 2: return rounds;
            case 3: return plans.acts();
            case 4: return plans.actsOf(Act.RANGES);
            case 5: return plans.bytes();
            default: return BAD;
        }
    }

    public int status() {
        return finding;
    }

    // ---- shared by the calls

    private static boolean isWithin(int number, int bound) {
        return number >= 0 && number < bound;
    }

    /** J of the document; the numbers are never below 0, and long keeps the square whole. */
    private static int mix(long a, long b) {
        return (int) ((31 * a * a + 17 * b + 101) % PRIME);
    }

    private int found(int number) {
        finding = number;
        return FINDING - number;
    }

    private int fine(int result) {
        finding = 0;
        return result;
    }

    private int roundNumber(int round, int what) {
        if (!isWithin(round, MOST_ROUNDS) || !isWithin(what, ROUND_NUMBERS)) {
            return 0;
        }
        return roundNumbers[round * ROUND_NUMBERS + what];
    }

    private int sheetsThere() {
        int there = 0;
        for (int i = 0; i < SHEETS; i++) {
            there += sheets[i].isMissing() ? 0 : 1;
        }
        return there;
    }

    /** A SHEET keeps its ITEMS as ints of any LANE, in one row that is used again. */
    private static final class Sheet {
        static final int MISSING = -1, BYTES = 0, SHORTS = 1, INTS = 2;

        private final int[] items = new int[MOST_ITEMS];
        private int lane = MISSING;
        private int size;

        void begin(int newLane, int n) {
            Arrays.fill(items, 0);
            lane = newLane;
            size = isWithin(n, MOST_ITEMS + 1) ? n : 0;
        }

        void lose() {
            lane = MISSING;
            size = 0;
        }

        boolean isMissing() {
            return lane == MISSING;
        }

        int lane() {
            return lane;
        }

        int size() {
            return size;
        }

        boolean hasItems(int from, int n) {
            return from >= 0 && n >= 0 && from <= size - n;
        }

        int item(int i) {
            return isWithin(i, size) ? items[i] : 0;
        }

        int store(int i, int v) {
            if (!isWithin(i, size)) {
                return 0;
            }
            items[i] = lane == BYTES ? (byte) v : lane == SHORTS ? (short) v : v;
            return items[i];
        }

        void storeItems(Sheet other, int i, int j, int n) {
            if (other.hasItems(i, n) && hasItems(j, n)) {
                System.arraycopy(other.items, i, items, j, n);
            }
        }
    }

    /** Numbers one behind the other, in one row that is used again. */
    private static final class Numbers {
        /** Three for each ROW are more than an ANSWER has; PROOFS of 14 PROBES stay below a SHEET. */
        static final int MOST_ANSWER = 3 * MOST_LEAVES, MOST_PROOFS = MOST_ITEMS;

        private final int[] items;
        private int size;

        Numbers(int most) {
            items = new int[Math.max(most, 0)];
        }

        void clear() {
            size = 0;
        }

        void add(int number) {
            if (size < items.length) {
                items[size] = number;
                size++;
            }
        }

        void replace(int i, int number) {
            if (isWithin(i, size)) {
                items[i] = number;
            }
        }

        void become(Numbers other) {
            clear();
            for (int i = 0; i < other.size; i++) {
                add(other.at(i));
            }
        }

        int size() {
            return size;
        }

        /** It is called at the end of deep chains, which LANGUAGE.md bounds: so it tests its index itself. */
        int at(int i) {
            return i >= 0 && i < size ? items[i] : NONE;
        }

        int numberOrSize(int i) {
            return i == -1 ? size : at(i);
        }
    }

    /** Leaves of a TABLE, or those of them that an ANSWER is made of: KEYS with VALUES. */
    private static final class Rows {
        private final int[] keys = new int[MOST_LEAVES];
        private final int[] values = new int[MOST_LEAVES];
        private int size;

        void clear() {
            size = 0;
        }

        void add(int key, int value) {
            insert(size, key, value);
        }

        void insert(int at, int key, int value) {
            if (size >= MOST_LEAVES || at < 0 || at > size) {
                return;
            }
            System.arraycopy(keys, at, keys, at + 1, size - at);
            System.arraycopy(values, at, values, at + 1, size - at);
            size++;
            keys[at] = key;
            values[at] = value;
        }

        void remove(int at) {
            if (!isWithin(at, size)) {
                return;
            }
            System.arraycopy(keys, at + 1, keys, at, size - at - 1);
            System.arraycopy(values, at + 1, values, at, size - at - 1);
            size--;
        }

        void replaceValue(int at, int value) {
            if (isWithin(at, size)) {
                values[at] = value;
            }
        }

        int size() {
            return size;
        }

        int keyAt(int i) {
            return isWithin(i, size) ? keys[i] : LAST_KEY;
        }

        int valueAt(int i) {
            return isWithin(i, size) ? values[i] : 0;
        }

        /** The place of a KEY, or -1. */
        int placeOf(int key) {
            for (int i = 0; i < size; i++) {
                if (keys[i] == key) {
                    return i;
                }
            }
            return -1;
        }
    }

    /**
     * SEALS and SUMS of a TREE and all its parts. The whole is number 1, the parts of t are 2 t and
     * 2 t + 1: so no walk needs more memory than the number of where it stands.
     */
    private static final class Tree {
        static final int TOP = 1, BOUND = 2 * MOST_LEAVES, LEVELS = 5;

        private final int[] starts = new int[BOUND];
        private final int[] widths = new int[BOUND];
        private final int[] seals = new int[BOUND];
        private final int[] sums = new int[BOUND];

        void shape(int leaves) {
            starts[TOP] = 0;
            widths[TOP] = leaves;
            for (int t = TOP; t < MOST_LEAVES; t++) {
                boolean forked = widths[t] > 1;
                int left = forked ? (widths[t] + 1) / 2 : 0;
                starts[2 * t] = starts[t];
                widths[2 * t] = left;
                starts[2 * t + 1] = starts[t] + left;
                widths[2 * t + 1] = forked ? widths[t] - left : 0;
            }
        }

        boolean isLeaf(int t) {
            return isWithin(t, BOUND) && widths[t] == 1;
        }

        boolean isFork(int t) {
            return isWithin(t, BOUND) && widths[t] > 1;
        }

        int start(int t) {
            return isWithin(t, BOUND) ? starts[t] : 0;
        }

        int width(int t) {
            return isWithin(t, BOUND) ? widths[t] : 0;
        }

        int sealOf(int t) {
            return isWithin(t, BOUND) ? seals[t] : 0;
        }

        int sumOf(int t) {
            return isWithin(t, BOUND) ? sums[t] : 0;
        }

        /** As Numbers.at: at the end of deep chains it tests its index itself. */
        void become(int t, int newSeal, int newSum) {
            if (t >= 0 && t < BOUND) {
                seals[t] = newSeal;
                sums[t] = newSum;
            }
        }

        void becomeLeaf(int t, int key, int value) {
            become(t, mix(mix(key + 1, value), 7), value);
        }

        void becomeFork(int t) {
            int left = 2 * t;
            int right = 2 * t + 1;
            int ofSeals = mix(sealOf(left), sealOf(right));
            int ofSums = mix(sumOf(left), sumOf(right));
            become(t, mix(ofSeals, ofSums), sumOf(left) + sumOf(right));
        }

        int tableSeal() {
            return mix(mix(seals[TOP], sums[TOP]), widths[TOP]);
        }

        /** The TREE that is told next when no part of t is; 0 behind the last. */
        static int behind(int t) {
            int up = t;
            for (int level = 0; level < LEVELS && up % 2 == 1; level++) {
                up = up / 2;
            }
            return up == 0 ? 0 : up + 1;
        }
    }

    private static final class Table {
        private final Rows leaves = new Rows();
        private final Tree tree = new Tree();

        Table() {
            leaves.add(FIRST_KEY, 0);
            leaves.add(LAST_KEY, 0);
            sealAnew();
        }

        private void sealAnew() {
            tree.shape(leaves.size());
            for (int t = Tree.BOUND - 1; t >= Tree.TOP; t--) {
                int leaf = tree.start(t);
                if (tree.isLeaf(t)) {
                    tree.becomeLeaf(t, leaves.keyAt(leaf), leaves.valueAt(leaf));
                } else if (tree.isFork(t)) {
                    tree.becomeFork(t);
                }
            }
        }

        /** False, and nothing changed, if there is no room for a new ROW. */
        boolean store(int key, int value) {
            int leaf = leaves.placeOf(key);
            if (leaf < 0 && leaves.size() >= MOST_LEAVES) {
                return false;
            }
            if (leaf < 0) {
                leaves.insert(firstFrom(key), key, value);
            } else {
                leaves.replaceValue(leaf, value);
            }
            sealAnew();
            return true;
        }

        void remove(int leaf) {
            leaves.remove(leaf);
            sealAnew();
        }

        int rows() {
            return leaves.size() - 2;
        }

        Rows leaves() {
            return leaves;
        }

        Tree tree() {
            return tree;
        }

        /** The first leaf with a KEY no lower; the leaf of KEY 1000 ends every search. */
        int firstFrom(int key) {
            int leaf = 0;
            while (leaf < leaves.size() - 1 && leaves.keyAt(leaf) < key) {
                leaf++;
            }
            return leaf;
        }
    }

    /** What a plan asks for. A PROBE has its key as low and high; what has no TABLE b has a there. */
    private static final class Act {
        static final int ACTS = 0, RANGES = 1, ADDS = 2, FIRSTS = 3, PROBES = 4, PAIRS = 5, NOTS = 6;

        private static final int[] KIND_OF_WORD = {RANGES, ADDS, FIRSTS, PROBES, PAIRS, PAIRS, NOTS};
        private static final int[] KIND_ABOVE = {-1, ACTS, RANGES, RANGES, RANGES, ACTS, PAIRS};

        final int word;
        final int a;
        final int b;
        final int low;
        final int high;
        final int k;

        Act(int word, int a, int b, int low, int high, int k) {
            this.word = word;
            this.a = a;
            this.b = b;
            this.low = low;
            this.high = high;
            this.k = k;
        }

        int ownKind() {
            return isWithin(word, KINDS) ? KIND_OF_WORD[word] : ACTS;
        }

        boolean isOf(int wanted) {
            int own = ownKind();
            for (int step = 0; step < KINDS && isWithin(own, KINDS); step++) {
                if (own == wanted) {
                    return true;
                }
                own = KIND_ABOVE[own];
            }
            return false;
        }

        boolean hasProbes() {
            return word == JOIN || word == NOT;
        }

        boolean isPair() {
            return isOf(PAIRS);
        }

        /** ANSWER by the ROWS of its first PROOF, those of its others, and the sum of a SUM. */
        void answerInto(Numbers out, Rows ofA, Rows ofB, int sum) {
            out.clear();
            if (word == SUM) {
                out.add(ofA.size());
                out.add(sum);
            } else if (word == JOIN || word == MERGE) {
                matchesInto(out, ofA, ofB);
            } else {
                missesInto(out, ofA, ofB);
            }
        }

        private static void matchesInto(Numbers out, Rows ofA, Rows ofB) {
            for (int i = 0; i < ofA.size(); i++) {
                int match = ofB.placeOf(ofA.keyAt(i));
                if (match >= 0) {
                    out.add(ofA.keyAt(i));
                    out.add(ofA.valueAt(i));
                    out.add(ofB.valueAt(match));
                }
            }
        }

        /** What has no TABLE b has no ROWS of it, either: then every ROW of a is a miss. */
        private static void missesInto(Numbers out, Rows ofA, Rows ofB) {
            for (int i = 0; i < ofA.size(); i++) {
                if (ofB.placeOf(ofA.keyAt(i)) < 0) {
                    out.add(ofA.keyAt(i));
                    out.add(ofA.valueAt(i));
                }
            }
        }
    }

    /** Tells PROOFS and ANSWERS of ACTS from TABLES as they are now. */
    private static final class Prover {
        private final boolean[] shown = new boolean[MOST_LEAVES];
        private final Numbers proofs = new Numbers(Numbers.MOST_PROOFS);
        private final Numbers result = new Numbers(Numbers.MOST_ANSWER);
        private final Rows ofA = new Rows();
        private final Rows ofB = new Rows();

        Numbers proofsOf(Act act, Table[] tables) {
            Table a = tables[act.a];
            Table b = tables[act.b];
            int from = a.firstFrom(act.low);
            int behind = a.firstFrom(act.high + 1);
            proofs.clear();
            if (act.word == SUM) {
                hideAll();
                show(from - 1, from);
                show(behind - 1, behind);
                tellShown(a);
            } else if (act.word == FIRST) {
                hideAll();
                show(from - 1, Math.min(from - 1 + act.k, a.leaves().size() - 1));
                tellShown(a);
            } else {
                tellRange(a, act.low, act.high);
            }
            if (act.word == MERGE) {
                tellRange(b, act.low, act.high);
            }
            for (int leaf = from; leaf < behind && act.hasProbes(); leaf++) {
                tellRange(b, a.leaves().keyAt(leaf), a.leaves().keyAt(leaf));
            }
            return proofs;
        }

        private void tellRange(Table table, int low, int high) {
            hideAll();
            show(table.firstFrom(low) - 1, table.firstFrom(high + 1));
            tellShown(table);
        }

        private void hideAll() {
            for (int leaf = 0; leaf < MOST_LEAVES; leaf++) {
                shown[leaf] = false;
            }
        }

        private void show(int from, int to) {
            for (int leaf = Math.max(from, 0); leaf <= to && leaf < MOST_LEAVES; leaf++) {
                shown[leaf] = true;
            }
        }

        private void tellShown(Table table) {
            Tree tree = table.tree();
            proofs.add(table.leaves().size());
            int t = Tree.TOP;
            for (int step = 1; step < Tree.BOUND && t > 0; step++) {
                boolean open = hasShown(tree.start(t), tree.width(t));
                tellTree(table, t, open);
                t = open && tree.isFork(t) ? 2 * t : Tree.behind(t);
            }
        }

        private boolean hasShown(int start, int width) {
            for (int leaf = Math.max(start, 0); leaf < start + width && leaf < MOST_LEAVES; leaf++) {
                if (shown[leaf]) {
                    return true;
                }
            }
            return false;
        }

        private void tellTree(Table table, int t, boolean open) {
            Tree tree = table.tree();
            proofs.add(open ? 1 : 0);
            if (!open) {
                proofs.add(tree.sealOf(t));
                proofs.add(tree.sumOf(t));
            } else if (tree.isLeaf(t)) {
                proofs.add(table.leaves().keyAt(tree.start(t)));
                proofs.add(table.leaves().valueAt(tree.start(t)));
            }
        }

        Numbers answerOf(Act act, Table[] tables) {
            Table a = tables[act.a];
            Table b = tables[act.b];
            int from = a.firstFrom(act.low);
            int behind = a.firstFrom(act.high + 1);
            int sum = 0;
            ofA.clear();
            ofB.clear();
            if (act.word == SUM) {
                sum = gatherEnds(a.leaves(), from, behind);
            } else if (act.word == FIRST) {
                gather(ofA, a.leaves(), from, Math.min(from + act.k, a.leaves().size() - 1));
            } else {
                gather(ofA, a.leaves(), from, behind);
            }
            if (act.isPair()) {
                gather(ofB, b.leaves(), b.firstFrom(act.low), b.firstFrom(act.high + 1));
            }
            act.answerInto(result, ofA, ofB, sum);
            return result;
        }

        private static void gather(Rows rows, Rows leaves, int from, int behind) {
            for (int leaf = from; leaf < behind; leaf++) {
                rows.add(leaves.keyAt(leaf), leaves.valueAt(leaf));
            }
        }

        /** Of a SUM the first and the last of its ROWS alone are SHOWN, yet all are added. */
        private int gatherEnds(Rows leaves, int from, int behind) {
            int sum = 0;
            for (int leaf = from; leaf < behind; leaf++) {
                sum += leaves.valueAt(leaf);
                if (leaf == from || leaf == behind - 1) {
                    ofA.add(leaves.keyAt(leaf), leaves.valueAt(leaf));
                }
            }
            return sum;
        }
    }

    /** CHECK: reads numbers with nothing in hand but the ACT and the SEALS of a ROUND. */
    private static final class Checker {
        private static final int BAD_NUMBER = 1, OTHER_SEAL = 2, NOT_ENOUGH = 3;

        private final Numbers given = new Numbers(Numbers.MOST_PROOFS);
        private int at;
        private int why;

        private final Tree tree = new Tree();
        private final boolean[] shown = new boolean[MOST_LEAVES];
        private final boolean[] opened = new boolean[Tree.BOUND];
        private final int[] keys = new int[MOST_LEAVES];
        /** VALUE of a leaf that is SHOWN; SUM of what is not, at the first of its leaves. */
        private final int[] amounts = new int[MOST_LEAVES];
        private int leaves;
        private int lastKey;

        private final Rows ofA = new Rows();
        private final Rows ofB = new Rows();
        private int sum;
        private final Numbers result = new Numbers(Numbers.MOST_ANSWER);

        Numbers given() {
            return given;
        }

        Numbers result() {
            return result;
        }

        int reason() {
            return why;
        }

        int wrong() {
            return at;
        }

        boolean takes(Act act, int sealA, int sealB) {
            at = 0;
            why = 0;
            sum = 0;
            ofA.clear();
            ofB.clear();
            result.clear();
            for (int p = 0; p < MOST_LEAVES && p < proofsOf(act) && why == 0; p++) {
                readProof(p == 0 ? sealA : sealB);
                if (why == 0) {
                    hold(act, p);
                }
            }
            if (why == 0 && at < given.size()) {
                why = BAD_NUMBER;
            }
            if (why == 0) {
                act.answerInto(result, ofA, ofB, sum);
            }
            return why == 0;
        }

        /** How many PROOFS there are, as far as those that are read tell it. */
        private int proofsOf(Act act) {
            if (act.word == MERGE) {
                return 2;
            }
            return act.hasProbes() ? 1 + ofA.size() : 1;
        }

        private int next(int least, int most) {
            int number = given.at(at);
            if (at >= given.size() || number < least || number > most) {
                why = BAD_NUMBER;
                return least;
            }
            at++;
            return number;
        }

        private void readProof(int sealDue) {
            leaves = next(2, MOST_LEAVES);
            if (why != 0) {
                return;
            }
            beginTree();
            int t = Tree.TOP;
            for (int step = 1; step < Tree.BOUND && t > 0 && why == 0; step++) {
                t = readTree(t);
            }
            if (why != 0) {
                return;
            }
            for (int i = MOST_LEAVES - 1; i >= Tree.TOP; i--) {
                if (opened[i]) {
                    tree.becomeFork(i);
                }
            }
            if (tree.tableSeal() != sealDue) {
                why = OTHER_SEAL;
            }
        }

        private void beginTree() {
            tree.shape(leaves);
            lastKey = FIRST_KEY;
            for (int i = 0; i < MOST_LEAVES; i++) {
                shown[i] = false;
                amounts[i] = 0;
            }
            for (int t = 0; t < Tree.BOUND; t++) {
                opened[t] = false;
            }
        }

        /** Reads what a TREE begins with, and what is its own: the TREE that is told next. */
        private int readTree(int t) {
            boolean open = next(0, 1) == 1;
            if (why != 0 || !isWithin(t, Tree.BOUND)) {
                return 0;
            }
            if (open && tree.isFork(t)) {
                opened[t] = true;
                return 2 * t;
            }
            if (open) {
                readLeaf(t);
            } else {
                readHidden(t);
            }
            return Tree.behind(t);
        }

        private void readLeaf(int t) {
            int leaf = tree.start(t);
            boolean isFirst = leaf == 0;
            boolean isLast = leaf == leaves - 1;
            int least = isFirst ? FIRST_KEY : isLast ? LAST_KEY : lastKey + 1;
            int most = isFirst ? FIRST_KEY : isLast ? LAST_KEY : LAST_KEY - 1;
            int key = next(least, most);
            if (why != 0) {
                return;
            }
            int value = next(0, isFirst || isLast ? 0 : MOST_VALUE);
            if (why != 0 || !isWithin(leaf, MOST_LEAVES)) {
                return;
            }
            tree.becomeLeaf(t, key, value);
            shown[leaf] = true;
            keys[leaf] = key;
            amounts[leaf] = value;
            lastKey = key;
        }

        private void readHidden(int t) {
            int hiddenSeal = next(0, PRIME - 1);
            if (why != 0) {
                return;
            }
            int hiddenSum = next(0, MOST_SUM);
            int leaf = tree.start(t);
            if (why != 0 || !isWithin(leaf, MOST_LEAVES)) {
                return;
            }
            tree.become(t, hiddenSeal, hiddenSum);
            amounts[leaf] = hiddenSum;
        }

        /** Holds PROOF p, whose SEAL is right, against what must be SHOWN, and takes its ROWS. */
        private void hold(Act act, int p) {
            boolean isProbe = p > 0 && act.hasProbes();
            int low = isProbe ? ofA.keyAt(p - 1) : act.low;
            int high = isProbe ? low : act.high;
            int x = lastBelow(low);
            int behind = act.word == FIRST ? Math.min(x + 1 + act.k, leaves) : firstAbove(high);
            if (x < 0 || behind < 0 || !isEnough(act.word, x, behind)) {
                why = NOT_ENOUGH;
                return;
            }
            takeRows(p == 0 ? ofA : ofB, x, behind);
        }

        private int lastBelow(int low) {
            for (int i = leaves - 1; i >= 0; i--) {
                if (isWithin(i, MOST_LEAVES) && shown[i] && keys[i] < low) {
                    return i;
                }
            }
            return -1;
        }

        private int firstAbove(int high) {
            for (int i = 0; i < leaves && i < MOST_LEAVES; i++) {
                if (shown[i] && keys[i] > high) {
                    return i;
                }
            }
            return -1;
        }

        /** If x and y of a SUM stand beside one another, the leaf beside each is the other: SHOWN. */
        private boolean isEnough(int word, int x, int behind) {
            if (word == SUM) {
                return isShown(x + 1) && isShown(behind - 1);
            }
            for (int i = x + 1; i < behind; i++) {
                if (!isShown(i)) {
                    return false;
                }
            }
            return true;
        }

        private boolean isShown(int leaf) {
            return isWithin(leaf, MOST_LEAVES) && shown[leaf];
        }

        private void takeRows(Rows rows, int x, int behind) {
            for (int i = x + 1; i < behind && i < MOST_LEAVES; i++) {
                sum += amounts[i];
                if (isShown(i) && keys[i] < LAST_KEY) {
                    rows.add(keys[i], amounts[i]);
                }
            }
        }
    }

    /** THE TAPE, the reading of it, and the ACTS that came of it. */
    private static final class Plans {
        private static final int MOST_BYTES = 200, MOST_FIGURES = 3, MOST_NUMBERS = 4, MOST_FIRST = 14;
        private static final int END = 0, NAME = 1, NUMBER = 2, SIGN = 3, NO_TOKEN = 4;
        private static final int CANNOT_STAND = 1, NOT_AS_TOLD = 2, ONE_ACT_MORE = 3;

        private final int[] tape = new int[MOST_BYTES];
        private int bytes;
        private final Act[] acts = new Act[MOST_ACTS];
        private int many;

        private int token;
        private int tokenStart;
        private int tokenEnd;
        private int tokenValue;
        private final int[] numbers = new int[MOST_NUMBERS];
        private int faultHere;
        private int faultBefore;

        boolean append(long w, int n) {
            if (bytes + n > MOST_BYTES) {
                return false;
            }
            for (int k = n - 1; k >= 0; k--) {
                tape[bytes] = (int) (w >>> (8 * k)) & 255;
                bytes++;
            }
            return true;
        }

        int bytes() {
            return bytes;
        }

        int acts() {
            return many;
        }

        Act act(int number) {
            return isWithin(number, many) ? acts[number] : null;
        }

        int actsOf(int wanted) {
            int found = 0;
            for (int i = 0; i < many; i++) {
                Act each = act(i);
                found += each != null && each.isOf(wanted) ? 1 : 0;
            }
            return found;
        }

        int latestFault() {
            return faultBefore;
        }

        /** -1, or the place of the FAULT because of which no ACT came. */
        int readTape() {
            int after = many;
            faultHere = 0;
            tokenEnd = 0;
            nextToken();
            for (int step = 0; step < MOST_BYTES && token != END && faultHere == 0; step++) {
                Act read = readAct(after);
                if (faultHere == 0 && isWithin(after, MOST_ACTS)) {
                    acts[after] = read;
                    after++;
                }
            }
            bytes = 0;
            if (faultHere != 0) {
                faultBefore = faultHere;
                return tokenStart;
            }
            many = after;
            return -1;
        }

        private Act readAct(int number) {
            int word = token == NAME ? wordOfToken() : -1;
            if (word < 0) {
                faultHere = CANNOT_STAND;
            } else if (number >= MOST_ACTS) {
                faultHere = ONE_ACT_MORE;
            }
            for (int k = 0; k < numbersOf(word) && faultHere == 0; k++) {
                nextToken();
                readNumber(word, k);
            }
            if (faultHere == 0) {
                nextToken();
                faultHere = token == SIGN ? 0 : CANNOT_STAND;
            }
            if (faultHere != 0) {
                return null;
            }
            nextToken();
            return actOf(word);
        }

        private void readNumber(int word, int k) {
            if (token != NUMBER) {
                faultHere = CANNOT_STAND;
            } else if (!isAsTold(word, k, tokenValue)) {
                faultHere = NOT_AS_TOLD;
            } else if (isWithin(k, MOST_NUMBERS)) {
                numbers[k] = tokenValue;
            }
        }

        private Act actOf(int word) {
            if (word >= JOIN) {
                return new Act(word, numbers[0], numbers[1], numbers[2], numbers[3], 0);
            }
            int high = word == RANGE || word == SUM ? numbers[2] : numbers[1];
            int k = word == FIRST ? numbers[2] : 0;
            return new Act(word, numbers[0], numbers[0], numbers[1], high, k);
        }

        private static int numbersOf(int word) {
            return word >= JOIN ? 4 : word == PROBE ? 2 : 3;
        }

        /** Three figures keep a low and a key within 0 to 999: they have nothing more to meet. */
        private boolean isAsTold(int word, int k, int value) {
            if (k == 0 || k == 1 && word >= JOIN) {
                return value < TABLES;
            }
            if (word == FIRST && k == 2) {
                return value >= 1 && value <= MOST_FIRST;
            }
            boolean isHigh = k == (word >= JOIN ? 3 : 2);
            return !isHigh || value >= numbers[k - 1];
        }

        private void nextToken() {
            int at = tokenEnd;
            while (at < bytes && (byteAt(at) == 32 || byteAt(at) == 10)) {
                at++;
            }
            tokenStart = at;
            tokenEnd = at + 1;
            if (at >= bytes) {
                token = END;
                tokenEnd = bytes;
            } else if (isLetter(byteAt(at))) {
                token = NAME;
                readName();
            } else if (isFigure(byteAt(at))) {
                readFigures();
            } else {
                token = byteAt(at) == ';' ? SIGN : NO_TOKEN;
            }
        }

        private void readName() {
            while (tokenEnd < bytes && isLetter(byteAt(tokenEnd))) {
                tokenEnd++;
            }
        }

        private void readFigures() {
            tokenEnd = tokenStart;
            tokenValue = 0;
            while (tokenEnd < bytes && isFigure(byteAt(tokenEnd))) {
                tokenValue = tokenEnd - tokenStart < MOST_FIGURES ? 10 * tokenValue + byteAt(tokenEnd) - '0' : 0;
                tokenEnd++;
            }
            token = tokenEnd - tokenStart <= MOST_FIGURES ? NUMBER : NO_TOKEN;
        }

        private int byteAt(int i) {
            return isWithin(i, bytes) ? tape[i] : 0;
        }

        private static boolean isLetter(int sign) {
            return sign >= 'a' && sign <= 'z';
        }

        private static boolean isFigure(int sign) {
            return sign >= '0' && sign <= '9';
        }

        private int wordOfToken() {
            for (int word = RANGE; word <= NOT; word++) {
                if (isTokenText(textOf(word))) {
                    return word;
                }
            }
            return -1;
        }

        private static String textOf(int word) {
            switch (word) {
                case RANGE: return "range";
                case SUM: return "sum";
                case FIRST: return "first";
                case PROBE: return "probe";
                case JOIN: return "join";
                case MERGE: return "merge";
                default: return "not";
            }
        }

        private boolean isTokenText(String text) {
            boolean same = text.length() == tokenEnd - tokenStart;
            for (int k = 0; k < text.length() && same; k++) {
                same = text.charAt(k) == byteAt(tokenStart + k);
            }
            return same;
        }
    }

    /** The BODIES of the asks, and THE TRACE that they leave. */
    private static final class Asks {
        private static final int MOST_TRACE = 16, MOST_DEPTH = 8;
        /** By the KIND of an ACT the BODY that begins: its own, or that of the nearest KIND above. */
        private static final int[] SIZE_OF_KIND = {10, 11, 12, 11, 11, 13, 14};
        private static final int[] MARK_OF_KIND = {20, 21, 21, 21, 22, 23, 23};

        private final int[] bodies = new int[MOST_TRACE];
        private int many;
        private int number;
        private int kindOfAct;
        private int words;
        private int rowsOfA;
        private int rowsOfB;

        void begin(int act, int actKind, int actWords) {
            many = 0;
            number = act;
            kindOfAct = isWithin(actKind, KINDS) ? actKind : Act.ACTS;
            words = actWords;
        }

        void beginRows(int ofA, int ofB) {
            rowsOfA = ofA;
            rowsOfB = ofB;
        }

        int sizeOfAct() {
            return body(SIZE_OF_KIND[kindOfAct], 0);
        }

        int markOfAct() {
            return body(MARK_OF_KIND[kindOfAct], 0);
        }

        int traced(int i) {
            return isWithin(i, many) ? bodies[i] : NONE;
        }

        private int body(int which, int depth) {
            if (depth > MOST_DEPTH) {
                return 0;
            }
            leave(which);
            int mark = MARK_OF_KIND[kindOfAct];
            switch (which) {
                case 11: return body(10, depth + 1) + body(mark, depth + 1);
                case 12: return 2 * body(11, depth + 1);
                case 13: return body(10, depth + 1) + rowsOfB;
                case 14: return body(13, depth + 1) - body(mark, depth + 1);
                case 20: return number;
                case 21: return body(20, depth + 1) + rowsOfA;
                case 22: return 2 * body(21, depth + 1);
                case 23: return body(20, depth + 1) + 100;
                default: return words;
            }
        }

        private void leave(int which) {
            if (many < MOST_TRACE) {
                bodies[many] = which;
                many++;
            }
        }
    }
}
