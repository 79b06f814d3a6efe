/** Promise 25: trace. */
public final class Promise25Test {
    private static final Due due = new Due("Promise25Test");

    /** "NONE": there was no ASK, or there are not so many; 16 and more, and below 0, too. */
    private static void none() {
        ProvenRows x = Three.planned("sum 0 0 999;join 0 1 0 0;");
        for (int i : new int[] {0, 1, 15, 16, -1, Tape.LEAST, Tape.MOST}) {
            due.is("ahead of an ASK: trace(" + i + ")", x.trace(i), Tape.NONE);
        }
        x.ask(0, 0);
        for (int i : new int[] {5, 6, 15, 16, 17, -1, -2, Tape.NONE, Tape.LEAST, Tape.MOST}) {
            due.is("behind one: trace(" + i + ")", x.trace(i), Tape.NONE);
        }
        due.is("the first", x.trace(0), 12);
        due.is("the last", x.trace(4), 20);
        x.ask(1, 0);
        due.are("a shorter one", x::trace, 13, 10);
    }

    /** The longest there are have five numbers: "the first 16" are all of them. */
    private static void longest() {
        ProvenRows x = Three.planned("sum 0 0 999;probe 0 1;not 0 1 0 0;");
        x.ask(0, 0);
        due.are("an ADD", x::trace, 12, 11, 10, 21, 20);
        x.ask(1, 0);
        due.are("a PROBE", x::trace, 11, 10, 22, 21, 20);
        x.ask(2, 0);
        due.are("a NOT", x::trace, 14, 13, 10, 23, 20);
    }

    /** It stays until the next ASK. */
    private static void stays() {
        ProvenRows x = Three.planned("sum 0 0 999;not 0 1 0 0;");
        x.ask(1, 0);
        x.put(0, 10, 6);
        x.take(0, 10);
        x.kind(0);
        x.as(0, 0);
        x.proof(0, -1);
        x.fewer(0, 1, 0, 0);
        Tape.plan(x, "probe 0 0;");
        Tape.plan(x, "?");
        x.forged(0, 1);
        x.ask(9, 0);
        x.ask(0, 2);
        due.are("behind other calls", x::trace, 14, 13, 10, 23, 20);
        due.are("asked again", x::trace, 14, 13, 10, 23, 20);
    }

    /** Asking for a number that there is not changes nothing. */
    private static void changesNothing() {
        for (int i : new int[] {-1, 5, 16, Tape.LEAST, Tape.MOST}) {
            ProvenRows x = Three.planned("sum 0 0 999;");
            x.ask(0, 0);
            x.drop(0);
            due.is("trace(" + i + ")", x.trace(i), Tape.NONE);
            due.are("behind it", x::trace, 12, 11, 10, 21, 20);
            due.is("status()", x.status(), 1);
        }
    }

    public static void main(String[] args) {
        none();
        longest();
        stays();
        changesNothing();
        due.end();
    }
}
