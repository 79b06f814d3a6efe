/** Promises 11 to 13: feed, plan, fault. */
public final class PlansTest {
    private static final Due due = new Due("PlansTest");

    private static void feed() {
        ProvenRows x = new ProvenRows();
        due.is("n 0", x.feed(0, 0), Tape.BAD);
        due.is("n 9", x.feed(0, 9), Tape.BAD);
        due.is("n -1", x.feed(0, -1), Tape.BAD);
        due.is("the lowest byte alone", x.feed(0x7172737475767720L, 1), 1);
        for (int i = 0; i < 24; i++) {
            due.is("feed", x.feed(0x2020202020202020L, 8), 9 + 8 * i);
        }
        due.is("count(5)", x.count(5), 193);
        due.is("8 more", x.feed(0x2020202020202020L, 8), Tape.FULL);
        due.is("none came", x.count(5), 193);
        due.is("7 more", x.feed(0x2020202020200aL, 7), 200);
        due.is("1 more", x.feed(0x20, 1), Tape.FULL);
        due.is("n 9 at the end", x.feed(0x20, 9), Tape.BAD);
        due.is("a plan of nothing", x.plan(), 0);
        due.is("the tape is empty", x.count(5), 0);
        due.is("the highest of them first", x.feed(0x11223344736f743bL, 4), 4);
        due.is("'sot;' is no word", x.plan(), -1000100);
    }

    private static void plan() {
        ProvenRows x = new ProvenRows();
        due.is("all words", Tape.plan(x, "range 0 1 2;sum 1 2 3;first 2 3 14;probe 0 999;join 0 1 2 3;"), 5);
        due.is("more come behind", Tape.plan(x, "merge 2 1 0 999;not 1 1 5 5;"), 7);
        due.is("no byte between, and many", Tape.plan(x, "  range0 1\n\n2 \n;\nprobe 0 007 ; "), 9);
        due.is("fault()", x.fault(), 0);
        int[] kinds = {1, 2, 3, 4, 5, 5, 6, 1, 4};
        for (int act = 0; act < kinds.length; act++) {
            due.is("kind(" + act + ")", x.kind(act), kinds[act]);
        }
        int[] as = {0, 1, 2, 0, 0, 2, 1, 0, 0};
        for (int act = 0; act < as.length; act++) {
            due.is("TABLE a of " + act, x.as(act, 0), as[act]);
        }
        due.is("low is high", Tape.plan(x, "sum 0 5 5;"), 10);
        due.is("k is 1", Tape.plan(x, "first 0 5 1;"), 11);
        due.is("a plan of nothing", x.plan(), 11);
    }

    private static void faulty(String text, int fault, int place) {
        ProvenRows x = new ProvenRows();
        due.is("plan of '" + text + "'", Tape.plan(x, text), -1000100 - place);
        due.is("fault of '" + text + "'", x.fault(), fault);
        due.is("no ACT came", x.count(3), 0);
        due.is("the tape is empty", x.count(5), 0);
    }

    private static void faults() {
        faulty(";", 1, 0);
        faulty("7", 1, 0);
        faulty("rang 0 0 0;", 1, 0);
        faulty("ranges 0 0 0;", 1, 0);
        faulty("Range 0 0 0;", 1, 0);
        faulty("rangez 0 0 0;", 1, 0);
        faulty("rangea 0 0 0;", 1, 0);
        faulty("range`0 0 0;", 1, 5);
        faulty("range{0 0 0;", 1, 5);
        faulty("range 0/ 0 0;", 1, 7);
        faulty("range 0: 0 0;", 1, 7);
        faulty("range 9 0 0;", 2, 6);
        faulty("range 0 0 0;x", 1, 12);
        faulty("range 0 0 0; 5", 1, 13);
        faulty("range 0 0 0;\t", 1, 12);
        faulty("range 0 0 0,", 1, 11);
        faulty("range ? 0 0;", 1, 6);
        faulty("range?0 0 0;", 1, 5);
        faulty("range -1 0 0;", 1, 6);
        faulty("range range 0 0;", 1, 6);
        faulty("range 0000 0 0;", 1, 6);
        faulty("range 0 0 0", 1, 11);
        faulty("range 0 0 0  ", 1, 13);
        faulty("range 0 0 0 0;", 1, 12);
        faulty("range\u00e9", 1, 5);
        faulty("range 3 9 0;", 2, 6);
        faulty("range 0 9 8;", 2, 10);
        faulty("sum 999 9 8;", 2, 4);
        faulty("sum 2 999 998;", 2, 10);
        faulty("first 0 0 0;", 2, 10);
        faulty("first 0 0 15;", 2, 10);
        faulty("first 0 0 015;", 2, 10);
        faulty("first 0 0 1500;", 1, 10);
        faulty("probe 3 0;", 2, 6);
        faulty("probe 0;", 1, 7);
        faulty("join 3 3 0 0;", 2, 5);
        faulty("join 0 3 0 0;", 2, 7);
        faulty("merge 0 0 5 4;", 2, 12);
        faulty("not 0 0 5 4 3;", 2, 10);
        faulty("not 0 0 5;", 1, 9);
        faulty("probe 0 0;probe 0 0;probe 0 x;range 9", 1, 28);
    }

    private static void thirteenth() {
        ProvenRows x = new ProvenRows();
        String seven = "probe 0 1;probe 0 2;probe 0 3;probe 0 4;probe 0 5;probe 0 6;probe 0 7;";
        due.is("seven", Tape.plan(x, seven), 7);
        due.is("a 13th in the second text", Tape.plan(x, seven), -1000100 - 50);
        due.is("fault()", x.fault(), 3);
        due.is("none came", x.count(3), 7);
        due.is("a good plan", Tape.plan(x, seven.substring(0, 50)), 12);
        due.is("fault() stays", x.fault(), 3);
        due.is("a 13th that is no word", Tape.plan(x, "prob 0 1;"), -1000100);
        due.is("the least", x.fault(), 1);
        due.is("a 13th ahead of what is wrong in it", Tape.plan(x, " probe 9 9 9"), -1000101);
        due.is("fault()", x.fault(), 3);
        due.is("nothing more", x.plan(), 12);
        due.is("the FAULT ahead of others", Tape.plan(x, " ?"), -1000101);
        due.is("fault()", x.fault(), 1);
        due.is("act 12", x.kind(12), Tape.BAD);
    }

    public static void main(String[] args) {
        feed();
        plan();
        faults();
        thirteenth();
        due.end();
    }
}
