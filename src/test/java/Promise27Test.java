import java.util.function.Consumer;
import java.util.function.ToIntFunction;

/** Promise 27: status. */
public final class Promise27Test {
    private static final Due due = new Due("Promise27Test");

    /** SHEET 0 has 20 ints, SHEET 1 eight shorts, others are missing; the latest FINDING is none. */
    private static ProvenRows made() {
        ProvenRows x = Three.planned("range 0 0 999;not 0 1 0 999;");
        x.sheet(1, 1, 8);
        x.sheet(0, 2, 20);
        return x;
    }

    private static void statusIs(String name, ToIntFunction<ProvenRows> call, int answer, int want) {
        for (int before = 0; before <= 1; before++) {
            ProvenRows x = made();
            if (before == 1) {
                x.drop(7);
            }
            due.is(name + ": answer", call.applyAsInt(x), answer);
            due.is(name + ": status()", x.status(), want);
            due.is(name + ": asked again", x.status(), want);
        }
    }

    private static void statusStays(String name, Consumer<ProvenRows> call) {
        ProvenRows none = made();
        call.accept(none);
        due.is(name + ": none stays", none.status(), 0);
        ProvenRows found = made();
        found.set(0, 20, 0);
        call.accept(found);
        due.is(name + ": PLACE stays", found.status(), 2);
    }

    /** "0: .. or there was none". */
    private static void thereWasNone() {
        ProvenRows x = new ProvenRows();
        due.is("a new object", x.status(), 0);
        x.sheet(8, 0, 0);
        x.take(0, 0);
        x.as(0, 0);
        due.is("behind refusals alone", x.status(), 0);
    }

    /** "the number of its FINDING": of each call with a SHEET, and of as(). */
    private static void findings() {
        statusIs("sheet", x -> x.sheet(0, 0, -1), Tape.SIZE, 4);
        statusIs("set, missing", x -> x.set(2, 0, 0), Tape.NULL, 1);
        statusIs("set, no place", x -> x.set(0, 20, 0), Tape.PLACE, 2);
        statusIs("copy, missing", x -> x.copy(0, 0, 2, 0, 0), Tape.NULL, 1);
        statusIs("copy, two LANES", x -> x.copy(0, 0, 1, 0, 0), Tape.STORE, 5);
        statusIs("copy, no place", x -> x.copy(0, 1, 0, 0, 20), Tape.PLACE, 2);
        statusIs("drop", x -> x.drop(2), Tape.NULL, 1);
        statusIs("write, missing", x -> x.write(0, 2, 0), Tape.NULL, 1);
        statusIs("write, no place", x -> x.write(0, 0, 1), Tape.PLACE, 2);
        statusIs("write, not of ints", x -> {
            x.sheet(2, 0, 20);
            return x.write(0, 2, 0);
        }, Tape.STORE, 5);
        statusIs("check, missing", x -> x.check(0, 0, 2, 0, 0), Tape.NULL, 1);
        statusIs("check, no place", x -> x.check(0, 0, 0, 1, 20), Tape.PLACE, 2);
        statusIs("as", x -> x.as(0, 6), Tape.KIND, 3);
    }

    /** "0: it had none": behind a FINDING, too; a CHECK that is not taken is none. */
    private static void hadNone() {
        statusIs("sheet", x -> x.sheet(2, 0, 0), 0, 0);
        statusIs("set", x -> x.set(0, 0, 5), 5, 0);
        statusIs("copy", x -> x.copy(0, 0, 0, 0, 0), 0, 0);
        statusIs("drop", x -> x.drop(0), 20, 0);
        statusIs("write", x -> x.write(0, 0, 0), 20, 0);
        statusIs("check, not taken", x -> x.check(0, 0, 0, 0, 20), -1000200, 0);
        statusIs("check, taken", x -> {
            x.write(0, 0, 0);
            return x.check(0, 0, 0, 0, 20);
        }, 1, 0);
        statusIs("as", x -> x.as(0, 1), 0, 0);
    }

    /** "that was not BAD, STATE, FULL": such calls with a SHEET, and as(), leave it. */
    private static void refusalsLeaveIt() {
        statusStays("sheet", x -> x.sheet(0, 0, 601));
        statusStays("sheet, SIZE behind BAD", x -> x.sheet(0, 3, -1));
        statusStays("set", x -> x.set(8, 0, 0));
        statusStays("copy", x -> x.copy(0, 0, 8, 0, 0));
        statusStays("drop", x -> x.drop(-1));
        statusStays("write", x -> x.write(2, 0, 0));
        statusStays("write, SHEET", x -> x.write(0, 8, 0));
        statusStays("check", x -> x.check(0, 1, 0, 0, 0));
        statusStays("check, n", x -> x.check(0, 0, 0, 0, 601));
        statusStays("as, KIND", x -> x.as(0, 7));
        statusStays("as, ACT", x -> x.as(2, 6));
    }

    /** Calls without a SHEET leave it, be they answered or refused. */
    private static void otherCallsLeaveIt() {
        statusStays("put", x -> x.put(2, 5, 5));
        statusStays("put, BAD", x -> x.put(3, 5, 5));
        statusStays("take", x -> x.take(0, 10));
        statusStays("take, STATE", x -> x.take(0, 11));
        statusStays("told", x -> x.told(0, 0));
        statusStays("round", ProvenRows::round);
        statusStays("seal", x -> x.seal(0, 0));
        statusStays("feed", x -> x.feed(32, 1));
        statusStays("feed, BAD", x -> x.feed(32, 9));
        statusStays("plan", ProvenRows::plan);
        statusStays("plan, FAULT", x -> Tape.plan(x, "?"));
        statusStays("fault", ProvenRows::fault);
        statusStays("proof", x -> x.proof(0, 0));
        statusStays("answer", x -> x.answer(0, 0));
        statusStays("why", ProvenRows::why);
        statusStays("read", x -> x.read(-1));
        statusStays("fewer", x -> x.fewer(0, 1, 0, 0));
        statusStays("forged", x -> x.forged(0, 1));
        statusStays("kind", x -> x.kind(0));
        statusStays("ask", x -> x.ask(0, 0));
        statusStays("trace", x -> x.trace(0));
        statusStays("count", x -> x.count(0));
        statusStays("status", ProvenRows::status);
    }

    public static void main(String[] args) {
        thereWasNone();
        findings();
        hadNone();
        refusalsLeaveIt();
        otherCallsLeaveIt();
        due.end();
    }
}
