import java.util.Random;

/** Runs of calls, the same every time, whose answers are held against those of Reference. */
public final class RandomRunsTest {
    private static final int RUNS = 400, CALLS = 512;
    private static final String[] WORDS = {"range", "sum", "first", "probe", "join", "merge", "not", "sums", "r"};
    private static final String[] BETWEEN = {" ", "\n", "  ", " \n", "", "?", "-", "A", "\u00ff"};

    private final Due due;
    private final Random random;
    private final ProvenRows x = new ProvenRows();
    private final Reference reference = new Reference();
    private final int run;
    private final int keys;
    private int call;

    private RandomRunsTest(Due due, int run) {
        this.due = due;
        this.run = run;
        this.random = new Random(run);
        this.keys = random.nextBoolean() ? 20 : 1000;
    }

    private int pick(int bound) {
        return random.nextInt(bound);
    }

    /** A number below a bound, seldom one that is not. */
    private int near(int bound) {
        int chance = pick(40);
        if (chance == 0) return bound;
        if (chance == 1) return -1;
        if (chance == 2) return new int[] {Integer.MIN_VALUE, Integer.MAX_VALUE, -2, ProvenRows.NONE}[pick(4)];
        return pick(bound);
    }

    private void same(String name, int got, int want) {
        call++;
        due.is("run " + run + ", call " + call + ": " + name, got, want);
    }

    private String number(int bound) {
        return pick(60) == 0 ? "1000" : pick(20) == 0 ? "00" + pick(10) : "" + pick(bound);
    }

    private String between() {
        return BETWEEN[pick(12) == 0 ? pick(BETWEEN.length) : pick(4)];
    }

    private String act() {
        int word = pick(30) == 0 ? pick(WORDS.length) : pick(7);
        StringBuilder text = new StringBuilder(WORDS[word]);
        int table = pick(40) == 0 ? 4 : 3;
        text.append(between()).append(number(table));
        if (word >= 4) text.append(between()).append(number(table));
        int low = pick(keys);
        text.append(between()).append(low);
        if (word == 2) text.append(between()).append(number(15));
        else if (word != 3) text.append(between()).append(pick(20) == 0 ? number(keys) : "" + (low + pick(keys - low)));
        if (pick(40) == 0) text.append(between()).append(number(9));
        return pick(40) == 0 ? text.toString() : text.append(between()).append(';').toString();
    }

    private void feedText(String text) {
        for (int from = 0; from < text.length(); from += 8) {
            int n = Math.min(8, text.length() - from);
            long w = random.nextLong();
            for (int k = 0; k < n; k++) w = w << 8 | text.charAt(from + k);
            same("feed(" + w + ", " + n + ")", x.feed(w, n), reference.feed(w, n));
        }
    }

    private void plans() {
        int many = pick(5);
        for (int k = 0; k < many; k++) feedText(act() + between());
        if (pick(4) > 0) same("plan()", x.plan(), reference.plan());
        same("fault()", x.fault(), reference.fault());
        int n = near(10);
        long w = random.nextLong();
        if (pick(10) == 0) same("feed(w, " + n + ")", x.feed(w, n), reference.feed(w, n));
    }

    private void tables() {
        int table = near(3);
        int key = pick(10) == 0 ? near(1000) : pick(keys);
        int value = pick(10) == 0 ? near(1000) : pick(pick(2) == 0 ? 1000 : 10);
        if (pick(5) > 0) {
            same("put(" + table + ", " + key + ", " + value + ")", x.put(table, key, value), reference.put(table, key, value));
        } else {
            same("take(" + table + ", " + key + ")", x.take(table, key), reference.take(table, key));
        }
        int what = near(4);
        if (pick(3) == 0) same("told(" + table + ", " + what + ")", x.told(table, what), reference.told(table, what));
    }

    private void rounds() {
        if (pick(3) == 0) same("round()", x.round(), reference.round());
        int round = near(Math.max(1, reference.count(2)));
        int what = near(4);
        same("seal(" + round + ", " + what + ")", x.seal(round, what), reference.seal(round, what));
    }

    private void sheets() {
        int a = near(8);
        int b = near(8);
        int i = near(30);
        int j = near(30);
        int n = near(20);
        int lane = near(3);
        int v = pick(3) == 0 ? random.nextInt() : pick(300);
        int size = pick(10) == 0 ? near(601) : pick(60);
        switch (pick(6)) {
            case 0: same("sheet(" + a + ", " + lane + ", " + size + ")", x.sheet(a, lane, size), reference.sheet(a, lane, size)); break;
            case 1: same("drop(" + a + ")", x.drop(a), reference.drop(a)); break;
            case 2: case 3: same("set(" + a + ", " + i + ", " + v + ")", x.set(a, i, v), reference.set(a, i, v)); break;
            default: same("copy(" + a + ", " + i + ", " + b + ", " + j + ", " + n + ")", x.copy(a, i, b, j, n), reference.copy(a, i, b, j, n));
        }
        same("status()", x.status(), reference.status());
    }

    private void tellings() {
        int act = near(Math.max(1, reference.count(3)));
        int i = near(40) - 1;
        same("proof(" + act + ", -1)", x.proof(act, -1), reference.proof(act, -1));
        same("proof(" + act + ", " + i + ")", x.proof(act, i), reference.proof(act, i));
        same("answer(" + act + ", -1)", x.answer(act, -1), reference.answer(act, -1));
        same("answer(" + act + ", " + i + ")", x.answer(act, i), reference.answer(act, i));
    }

    private void checks() {
        int act = near(Math.max(1, reference.count(3)));
        int other = pick(3) == 0 ? near(Math.max(1, reference.count(3))) : act;
        int round = pick(4) == 0 ? near(Math.max(1, reference.count(2))) : reference.count(2) - 1;
        int at = pick(4) == 0 ? near(80) : 0;
        int sheet = near(8);
        if (pick(3) > 0) same("sheet(" + sheet + ", 2, 600)", x.sheet(sheet, 2, 600), reference.sheet(sheet, 2, 600));
        same("write(" + act + ", " + sheet + ", " + at + ")", x.write(act, sheet, at), reference.write(act, sheet, at));
        same("status()", x.status(), reference.status());
        int n = pick(5) == 0 ? near(601) : ProvenRows.NONE;
        if (n == ProvenRows.NONE && pick(3) == 0) n = Math.max(0, reference.proof(act, -1) + pick(3) - 1);
        int changes = pick(3);
        for (int k = 0; k < changes; k++) {
            int place = at + pick(Math.max(1, reference.proof(act, -1)));
            int v = new int[] {0, 1, 2, 3, 999, 1000, -1, 65520, 65521, 14000, 14001, pick(65521), pick(1000), pick(20)}[pick(14)];
            same("set(" + sheet + ", " + place + ", " + v + ")", x.set(sheet, place, v), reference.set(sheet, place, v));
            check(other, round, sheet, at, n);
        }
        if (changes == 0) check(other, round, sheet, at, n);
    }

    private void check(int act, int round, int sheet, int at, int n) {
        String name = "check(" + act + ", " + round + ", " + sheet + ", " + at + ", " + n + ")";
        same(name, x.check(act, round, sheet, at, n), reference.check(act, round, sheet, at, n));
        same("why()", x.why(), reference.why());
        same("read(-1)", x.read(-1), reference.read(-1));
        int i = near(10) - 1;
        same("read(" + i + ")", x.read(i), reference.read(i));
        same("status()", x.status(), reference.status());
    }

    private void asked() {
        int act = near(Math.max(1, reference.count(3)));
        int kind = near(7);
        int what = near(2);
        same("kind(" + act + ")", x.kind(act), reference.kind(act));
        same("as(" + act + ", " + kind + ")", x.as(act, kind), reference.as(act, kind));
        same("status()", x.status(), reference.status());
        same("ask(" + act + ", " + what + ")", x.ask(act, what), reference.ask(act, what));
        for (int i = -1; i < 6; i++) same("trace(" + i + ")", x.trace(i), reference.trace(i));
        int d = pick(3) == 0 ? near(65522) : 1 + pick(65520);
        int mirror = 65521 - 2 * reference.proof(act, pick(40));
        if (mirror > 0 && mirror < 65521) d = mirror;
        if (pick(3) == 0) same("forged(" + act + ", " + d + ")", x.forged(act, d), reference.forged(act, d));
        int a = near(3);
        int b = near(3);
        int low = pick(keys);
        int high = pick(8) == 0 ? near(1000) : low + pick(keys - low);
        same("fewer(" + a + ", " + b + ", " + low + ", " + high + ")", x.fewer(a, b, low, high), reference.fewer(a, b, low, high));
        int counted = near(6);
        same("count(" + counted + ")", x.count(counted), reference.count(counted));
    }

    private void go() {
        int early = pick(60);
        while (call < CALLS - 30) {
            int chance = pick(100);
            if (chance < 25 || call < early) tables();
            else if (chance < 32) rounds();
            else if (chance < 42) sheets();
            else if (chance < 60) plans();
            else if (chance < 70) tellings();
            else if (chance < 88) checks();
            else asked();
        }
    }

    public static void main(String[] args) {
        Due due = new Due("RandomRunsTest");
        for (int run = 0; run < RUNS; run++) {
            new RandomRunsTest(due, run).go();
        }
        due.end();
    }
}
