import java.util.ArrayList;
import java.util.List;
import java.util.function.Consumer;
import java.util.function.ToIntFunction;

/**
 * "What is refused, or found, changes nothing but status()": two objects have one past, one of them is
 * refused a call; behind it both must answer everything alike, be it by calls that change them.
 */
final class Twins {
    private static final Consumer<ProvenRows> NO_MORE = x -> { };
    /** The finding that the past leaves, unless it is the one that the call has. */
    private static final int KIND_FOUND = 3, NULL_FOUND = 1;

    private Twins() {
    }

    static void refused(Due due, String name, ToIntFunction<ProvenRows> call, int want) {
        refused(due, name, NO_MORE, call, want);
    }

    static void refused(Due due, String name, Consumer<ProvenRows> more, ToIntFunction<ProvenRows> call, int want) {
        ProvenRows left = past(more, want);
        ProvenRows refused = past(more, want);
        int status = refused.status();
        boolean isFinding = want < -1000010;
        due.is(name, call.applyAsInt(refused), want);
        due.is(name + ": status() before", status, want == Tape.KIND ? NULL_FOUND : KIND_FOUND);
        due.is(name + ": status() behind", refused.status(), isFinding ? -1000010 - want : status);
        List<Integer> wanted = all(left);
        List<Integer> got = all(refused);
        due.is(name + ": how much is told behind it", got.size(), wanted.size());
        for (int i = 0; i < wanted.size() && i < got.size(); i++) {
            due.is(name + ": what is told behind it at " + i, got.get(i), wanted.get(i));
        }
    }

    /** TABLE 0 is full, TABLE 2 empty; there is something of everything that a call could spoil. */
    private static ProvenRows past(Consumer<ProvenRows> more, int want) {
        ProvenRows x = new ProvenRows();
        for (int i = 0; i < 14; i++) {
            x.put(0, 10 + 20 * i, 900 + i);
        }
        Tape.rows(x, 1, 30, 5, 50, 6, 999, 7);
        x.round();
        x.put(1, 0, 8);
        x.round();
        Tape.plan(x, "range 0 10 50;sum 0 0 999;first 0 40 3;probe 1 30;join 1 0 0 99;merge 1 0 0 60;not 1 0 0 99;");
        Tape.plan(x, "range 2 0 9;");
        Tape.plan(x, "sum 0 1");
        x.sheet(0, 2, 100);
        x.sheet(2, 0, 0);
        Tape.fillSheet(x, 1, 1, 2, 1, 1, -1, 0, 1, 1000, 0);
        x.write(0, 0, 0);
        x.check(0, 1, 0, 0, Tape.NONE);
        x.ask(1, 0);
        Tape.feed(x, "probe 1 3");
        more.accept(x);
        if (want == Tape.KIND) {
            x.drop(6);
        } else {
            x.as(0, 6);
        }
        return x;
    }

    private static List<Integer> all(ProvenRows x) {
        List<Integer> out = new ArrayList<>();
        out.addAll(List.of(x.fault(), x.why()));
        for (int i = -1; i < 8; i++) {
            out.addAll(List.of(x.read(i), x.trace(i), x.count(i)));
        }
        for (int table = 0; table < 3; table++) {
            out.addAll(List.of(x.told(table, 0), x.told(table, 1), x.told(table, 2), x.told(table, 3)));
        }
        for (int round = 0; round < 20; round++) {
            out.addAll(List.of(x.seal(round, 0), x.seal(round, 1), x.seal(round, 2), x.seal(round, 3)));
        }
        for (int act = 0; act < 12; act++) {
            out.addAll(List.of(x.kind(act), x.ask(act, 0), x.answer(act, -1), x.answer(act, 1)));
        }
        sheetsInto(out, x);
        Tape.feed(x, "0;");
        out.addAll(List.of(x.count(5), x.plan(), x.answer(8, 0), x.answer(8, 1), x.fault(), x.round(), x.put(2, 5, 5)));
        return out;
    }

    /** A CHECK tells if ITEMS are what they were, a number of many bits which LANE a SHEET has. */
    private static void sheetsInto(List<Integer> out, ProvenRows x) {
        out.addAll(List.of(x.check(0, 1, 0, 0, Tape.NONE), x.check(7, 1, 1, 0, 8), x.check(7, 1, 0, 90, 10)));
        for (int sheet = 0; sheet < 8; sheet++) {
            out.addAll(List.of(x.set(sheet, 0, 0x12345678), x.drop(sheet)));
        }
    }
}
