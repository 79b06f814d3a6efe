/** Promise 12: plan. */
public final class Promise12Test {
    private static final Due due = new Due("Promise12Test");
    /** Ten bytes an ACT. */
    private static final String TWELVE = "probe 0 1;".repeat(12);
    /** Of each word an ACT with its least and one with its greatest numbers. */
    private static final String[] ENDS = {
        "range 0 0 0;", "range 2 999 999;", "range 1 0 999;", "sum 0 0 0;", "sum 2 999 999;", "first 0 0 1;",
        "first 2 999 14;", "probe 0 0;", "probe 2 999;", "join 0 0 0 0;", "join 2 2 999 999;", "merge 0 0 0 0;",
        "merge 2 2 999 999;", "not 0 0 0 0;", "not 2 2 999 999;", "join 0 2 0 999;"};
    /** Of each word an ACT with one figure a NUMBER. */
    private static final String[] SHORT = {"range 0 0 0;", "sum 0 0 0;", "first 0 0 1;", "probe 0 0;", "join 0 0 0 0;",
        "merge 0 0 0 0;", "not 0 0 0 0;"};

    /** Nothing on the tape, or nothing but what stands between: no ACT, and no FAULT. */
    private static void empty() {
        for (String text : new String[] {"", " ", "\n", "  \n \n\n  ", " ".repeat(200), "\n".repeat(200)}) {
            ProvenRows x = new ProvenRows();
            due.is("a text of " + text.length() + " bytes", Tape.plan(x, text), 0);
            due.is("fault()", x.fault(), 0);
            due.is("the tape is empty", x.count(5), 0);
        }
    }

    /** Numbers at the ends of what is told are as told. */
    private static void ends() {
        for (String text : ENDS) {
            ProvenRows x = new ProvenRows();
            due.is(text, Tape.plan(x, text), 1);
            due.is(text + " TABLE a", x.as(0, 0), text.charAt(text.indexOf(' ') + 1) - '0');
            due.is(text + " fault()", x.fault(), 0);
        }
    }

    /** "The tape, empty then"; ACTS "come behind those there are". */
    private static void behindThoseThereAre() {
        ProvenRows x = new ProvenRows();
        due.is("two", Tape.plan(x, "range 0 0 0;sum 1 0 0;"), 2);
        due.is("the tape is empty", x.count(5), 0);
        due.is("again: nothing to read", x.plan(), 2);
        due.is("two more", Tape.plan(x, "first 2 0 1;probe 0 0;"), 4);
        due.is("three more", Tape.plan(x, "join 1 0 0 0;merge 2 0 0 0;not 0 0 0 0;"), 7);
        int[] kinds = {1, 2, 3, 4, 5, 5, 6};
        int[] tables = {0, 1, 2, 0, 1, 2, 0};
        for (int act = 0; act < 7; act++) {
            due.is("KIND of ACT " + act, x.kind(act), kinds[act]);
            due.is("TABLE a of ACT " + act, x.as(act, 0), tables[act]);
        }
    }

    private static void same(String text) {
        ProvenRows x = Three.planned(text);
        due.is("'" + text + "'", x.count(3), 1);
        due.areAll("answer of '" + text + "'", i -> x.answer(0, i), 10, 5, 20, 6);
    }

    /** "bytes 32 and 10 between": as many as there are, none where TOKENS can be told apart; "figures, 3 at most". */
    private static void between() {
        same("range 0 7 20;");
        same("range\n0\n7\n20\n;\n");
        same("  range  0 \n 7\n\n20  ;  ");
        same("range0 7 20;");
        same("range 000 007 020;");
        same("range 00 07 20;");
        same(" ".repeat(187) + "range 0 7 20;");
        same("range 0 7 20" + " ".repeat(187) + ";");
        same("range 0 7 20;" + "\n".repeat(187));
    }

    /** "12 together at most": all at once, and one by one. */
    private static void twelve() {
        ProvenRows x = new ProvenRows();
        due.is("all at once", Tape.plan(x, TWELVE), 12);
        ProvenRows y = new ProvenRows();
        for (int i = 1; i <= 12; i++) {
            due.is("one more", Tape.plan(y, "sum 0 0 0;"), i);
        }
        due.is("fault()", y.fault(), 0);
        due.is("no more is needed", y.plan(), 12);
        due.is("a 13th", Tape.plan(y, "sum 0 0 0;"), -1000100);
        due.is("none comes", y.count(3), 12);
        due.is("the 12th stays", y.kind(11), 2);
        due.is("there is no 13th", y.kind(12), Tape.BAD);
    }

    private static void faulty(String text, int fault, int place) {
        ProvenRows x = new ProvenRows();
        due.is("plan of '" + text + "'", Tape.plan(x, text), -1000100 - place);
        due.is("fault of '" + text + "'", x.fault(), fault);
        due.is("no ACT comes of '" + text + "'", x.count(3), 0);
        due.is("the tape is empty behind '" + text + "'", x.count(5), 0);
    }

    /** "1 .. (the end: how many bytes there are)": a text that ends within an ACT, at every byte. */
    private static void endsTooEarly() {
        for (String text : SHORT) {
            for (int n = 1; n < text.length(); n++) {
                faulty(text.substring(0, n), 1, n < text.indexOf(' ') ? 0 : n);
            }
        }
        faulty("range", 1, 5);
        faulty("range ", 1, 6);
        faulty("range \n ", 1, 8);
        faulty("range 0 0 0", 1, 11);
        faulty("range 0 0 0  ", 1, 13);
        faulty("range 0 0 0;sum", 1, 15);
        faulty("range" + " ".repeat(195), 1, 200);
    }

    /** "1 it cannot stand there". */
    private static void cannotStandThere() {
        faulty(";", 1, 0);
        faulty("  ;", 1, 2);
        faulty("7", 1, 0);
        faulty("range 0 0 0;;", 1, 12);
        faulty("range 0 0 0; 5", 1, 13);
        faulty("range 0 0 0 range 0 0 0;", 1, 12);
        faulty("range range 0 0;", 1, 6);
        faulty("range ; 0 0;", 1, 6);
        faulty("range 0 sum 0;", 1, 8);
        faulty("range 0 0;", 1, 9);
        faulty("range 0 0 0 0;", 1, 12);
        faulty("sum 0 0;", 1, 7);
        faulty("sum 0 0 0 0;", 1, 10);
        faulty("first 0 0;", 1, 9);
        faulty("first 0 0 1 1;", 1, 12);
        faulty("probe 0;", 1, 7);
        faulty("probe 0 1 2;", 1, 10);
        faulty("join 0 0 0;", 1, 10);
        faulty("join 0 0 0 0 0;", 1, 13);
        faulty("merge 0 0 0;", 1, 11);
        faulty("merge 0 0 0 0 0;", 1, 14);
        faulty("not 0 0 0;", 1, 9);
        faulty("not 0 0 0 0 0;", 1, 12);
    }

    /** A NAME that is none of the words; one is as long as its letters go. */
    private static void noSuchWord() {
        for (String word : new String[] {"range", "sum", "first", "probe", "join", "merge", "not"}) {
            faulty(word.substring(0, word.length() - 1) + " 0 0 0 0;", 1, 0);
            faulty(word.substring(1) + " 0 0 0 0;", 1, 0);
            faulty(word + "s 0 0 0 0;", 1, 0);
            faulty(word + "a 0 0 0 0;", 1, 0);
            faulty(word + "z 0 0 0 0;", 1, 0);
            faulty("a" + word + " 0 0 0 0;", 1, 0);
            faulty(word.toUpperCase() + " 0 0 0 0;", 1, 0);
            for (int k = 0; k < word.length(); k++) {
                faulty(word.substring(0, k) + "x" + word.substring(k + 1) + " 0 0 0 0;", 1, 0);
            }
        }
        faulty("rangesum 0 0 0;", 1, 0);
        faulty("ran ge 0 0 0;", 1, 0);
        faulty("z", 1, 0);
        faulty("a".repeat(200), 1, 0);
    }

    /** "or is none": bytes beside letters, figures, the SIGN and those that stand between. */
    private static void noToken() {
        for (char sign : "`{@[AZ/:\t\r\u000b\u001f!,-+.\u0000\u007f\u0080\u00a0\u00ff".toCharArray()) {
            faulty(sign + "", 1, 0);
            faulty("range" + sign + "0 0 0;", 1, 5);
            faulty("range 0" + sign + " 0 0;", 1, 7);
            faulty("range " + sign + "0 0 0;", 1, 6);
            faulty("range 0 0 0" + sign, 1, 11);
            faulty("range 0 0 0;" + sign, 1, 12);
        }
    }

    /** "NUMBERS (figures, 3 at most)": four are no TOKEN, whatever they are. */
    private static void fourFigures() {
        faulty("range 0000 0 0;", 1, 6);
        faulty("range 0 0000 0;", 1, 8);
        faulty("range 0 0 1000;", 1, 10);
        faulty("range 0 0 0999;", 1, 10);
        faulty("first 0 0 0001;", 1, 10);
        faulty("probe 0 1234567890123;", 1, 8);
        faulty("probe 0 4294967296;", 1, 8);
        faulty("9".repeat(200), 1, 0);
    }

    /** "2 a NUMBER that is not as told": TABLES 0 .. 2, "k 1 to 14". */
    private static void notAsTold() {
        for (String table : new String[] {"3", "9", "003", "010", "999"}) {
            faulty("range " + table + " 0 0;", 2, 6);
            faulty("sum " + table + " 0 0;", 2, 4);
            faulty("first " + table + " 0 1;", 2, 6);
            faulty("probe " + table + " 0;", 2, 6);
            faulty("join " + table + " 0 0 0;", 2, 5);
            faulty("join 0 " + table + " 0 0;", 2, 7);
            faulty("merge " + table + " 0 0 0;", 2, 6);
            faulty("merge 0 " + table + " 0 0;", 2, 8);
            faulty("not " + table + " 0 0 0;", 2, 4);
            faulty("not 0 " + table + " 0 0;", 2, 6);
        }
        for (String k : new String[] {"0", "000", "15", "015", "999"}) {
            faulty("first 0 0 " + k + ";", 2, 10);
        }
    }

    /** "(high below low, too)": at high. */
    private static void highBelowLow() {
        faulty("range 0 1 0;", 2, 10);
        faulty("range 0 999 998;", 2, 12);
        faulty("sum 0 5 4;", 2, 8);
        faulty("join 0 0 5 4;", 2, 11);
        faulty("merge 2 2 100 99;", 2, 14);
        faulty("not 0 1 2 1;", 2, 10);
        ProvenRows x = new ProvenRows();
        due.is("a k below low is none of that", Tape.plan(x, "first 0 999 1;"), 1);
        due.is("nor is b below a", Tape.plan(x, "join 2 0 0 0;"), 2);
        due.is("nor low below b", Tape.plan(x, "not 0 2 1 1;"), 3);
        due.is("nor key below a", Tape.plan(x, "probe 2 1;"), 4);
    }

    /** "3 the 13th ACT (its word)". */
    private static void thirteenth() {
        faulty(TWELVE + "probe 0 1;", 3, 120);
        faulty(TWELVE + " \n probe", 3, 123);
        faulty(TWELVE + "sum 9 9 9", 3, 120);
        faulty(TWELVE + "probe 0 1;?", 3, 120);
        faulty("probe 0 1;".repeat(20), 3, 120);
        ProvenRows x = new ProvenRows();
        due.is("five", Tape.plan(x, TWELVE.substring(0, 50)), 5);
        due.is("eight more", Tape.plan(x, TWELVE.substring(0, 80)), -1000170);
        due.is("none comes", x.count(3), 5);
        due.is("seven more", Tape.plan(x, TWELVE.substring(0, 70)), 12);
    }

    /** "the first TOKEN that has one": later ones do not count. */
    private static void theFirstTokenThatHasOne() {
        faulty("range 3 9 0;", 2, 6);
        faulty("range 0 9 8 ?", 2, 10);
        faulty("? range 3", 1, 0);
        faulty("probe 0 0;probe 0 0;probe 0 x;range 9", 1, 28);
        faulty(TWELVE.substring(0, 110) + "probe 3 0;probe 0 1;", 2, 116);
        faulty(TWELVE.substring(0, 110) + "probe 0 0 probe 0 1;", 1, 120);
    }

    /** "of one TOKEN the least": where the 13th ACT would begin something that is no word. */
    private static void ofOneTokenTheLeast() {
        faulty(TWELVE + "x", 1, 120);
        faulty(TWELVE + ";", 1, 120);
        faulty(TWELVE + "5", 1, 120);
        faulty(TWELVE + "?", 1, 120);
        faulty("range 1000 0 0;", 1, 6);
        faulty("first 0 0 1500;", 1, 10);
    }

    /** "none comes": not those ahead of the FAULT, either; those of earlier texts stay as they are. */
    private static void noneComes() {
        ProvenRows x = Three.planned("range 0 7 20;probe 1 20;");
        due.is("a good ACT, then a FAULT", Tape.plan(x, "sum 2 0 0;sum 3 0 0;"), -1000114);
        due.is("ACTS", x.count(3), 2);
        due.is("RANGES", x.count(4), 2);
        due.is("no ACT 2", x.kind(2), Tape.BAD);
        due.is("ACT 0 stays", x.kind(0), 1);
        due.areAll("and its ANSWER", i -> x.answer(0, i), 10, 5, 20, 6);
        due.is("ACT 1 stays", x.kind(1), 4);
        due.is("status() stays", x.status(), 0);
        due.is("the next comes behind them", Tape.plan(x, "not 0 0 0 0;"), 3);
        due.is("its KIND", x.kind(2), 6);
    }

    public static void main(String[] args) {
        empty();
        ends();
        behindThoseThereAre();
        between();
        twelve();
        endsTooEarly();
        cannotStandThere();
        noSuchWord();
        noToken();
        fourFigures();
        notAsTold();
        highBelowLow();
        thirteenth();
        theFirstTokenThatHasOne();
        ofOneTokenTheLeast();
        noneComes();
        due.end();
    }
}
