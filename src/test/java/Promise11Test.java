import java.util.function.Consumer;

/** Promise 11: feed. */
public final class Promise11Test {
    private static final Due due = new Due("Promise11Test");
    private static final long BLANKS = 0x2020202020202020L;

    private static Consumer<ProvenRows> upTo(int bytes) {
        return x -> {
            for (int left = bytes - x.count(5); left > 0; left = bytes - x.count(5)) {
                x.feed(BLANKS, Math.min(8, left));
            }
        };
    }

    /** "(1 to 8)": "BAD: n". */
    private static void howManyBytes() {
        ProvenRows x = new ProvenRows();
        int has = 0;
        for (int n = 1; n <= 8; n++) {
            has += n;
            due.is("n " + n, x.feed(BLANKS, n), has);
            due.is("bytes on the tape", x.count(5), has);
        }
        for (int n : new int[] {0, 9, -1, -8, Tape.LEAST, Tape.MOST}) {
            Twins.refused(due, "n " + n, y -> y.feed(BLANKS, n), Tape.BAD);
        }
    }

    /** "at most 200 bytes"; "FULL: none comes", be it that some had room. */
    private static void full() {
        ProvenRows x = new ProvenRows();
        for (int i = 1; i <= 25; i++) {
            due.is("8 bytes more", x.feed(BLANKS, 8), 8 * i);
        }
        due.is("a 201st", x.feed(BLANKS, 1), Tape.FULL);
        due.is("200 stay", x.count(5), 200);
        due.is("status()", x.status(), 0);
        due.is("all are read", x.plan(), 0);
        due.is("there is room again", x.feed(BLANKS, 8), 8);
        for (int n = 1; n <= 8; n++) {
            int each = n;
            Twins.refused(due, "beyond 200 by one: " + n, upTo(201 - n), y -> y.feed(BLANKS, each), Tape.FULL);
            ProvenRows y = new ProvenRows();
            upTo(200 - n).accept(y);
            due.is("just up to 200: " + n, y.feed(BLANKS, n), 200);
        }
    }

    /** BAD is ahead of FULL. */
    private static void badAheadOfFull() {
        for (int n : new int[] {0, 9, -1}) {
            Twins.refused(due, "the tape is full, n " + n, upTo(200), x -> x.feed(BLANKS, n), Tape.BAD);
        }
    }

    /** "The lowest n bytes of w, the highest of them first": higher ones do not come. */
    private static void lowestBytesHighestFirst() {
        ProvenRows x = new ProvenRows();
        due.is("'sum '", x.feed(0x3b3b3b3b73756d20L, 4), 4);
        due.is("'2 5 5;'", x.feed(0x3b3b322035203520L, 6), 10);
        due.is("';'", x.feed(0x787878787878783bL, 1), 11);
        due.is("an ACT", x.plan(), 1);
        due.is("of TABLE 2", x.as(0, 2), 2);
        due.is("eight: 'probe 0 '", x.feed(0x70726f6265203020L, 8), 8);
        due.is("two: '7;'", x.feed(0xffffffffffff373bL, 2), 10);
        due.is("an ACT", x.plan(), 2);
        due.is("a PROBE", x.kind(1), 4);
    }

    /** Bytes above 127 are bytes, too: they come, and are no TOKEN. */
    private static void bytesAbove127() {
        ProvenRows x = new ProvenRows();
        due.is("eight of 255", x.feed(-1L, 8), 8);
        due.is("they are no TOKEN", x.plan(), -1000100);
        due.is("a blank, 128", x.feed(0x2080, 2), 2);
        due.is("128 is no TOKEN", x.plan(), -1000101);
        due.is("160 is no blank", x.feed(0xa0, 1), 1);
        due.is("it is no TOKEN", x.plan(), -1000100);
        due.is("0", x.feed(0, 1), 1);
        due.is("it is no TOKEN", x.plan(), -1000100);
    }

    public static void main(String[] args) {
        howManyBytes();
        full();
        badAheadOfFull();
        lowestBytesHighestFirst();
        bytesAbove127();
        due.end();
    }
}
