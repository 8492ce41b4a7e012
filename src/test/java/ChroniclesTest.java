/** Promises 1 to 5: a new object, type, clear, houses, entry. */
public final class ChroniclesTest {
    private static final Check CHECK = new Check("ChroniclesTest");

    public static void main(String[] args) {
        newObject();
        constants();
        typing();
        clearing();
        textsWithoutFault();
        slackFaults();
        houseFaults();
        numberFaults();
        otherLetters();
        endsTooEarly();
        behindTheEnd();
        firstFaultCounts();
        faultChangesNothing();
        readAnew();
        entries();
        CHECK.finish();
    }

    private static void newObject() {
        YearLines x = new YearLines();
        for (int what = 0; what <= 7; what++) {
            CHECK.due("new count(" + what + ")", x.count(what), 0);
        }
        CHECK.due("new entry", x.entry(0, 0, 0), YearLines.BAD);
        CHECK.due("new shift", x.shift(0, 0), YearLines.NO);
        CHECK.due("new measure", x.measure(0, 0), YearLines.BAD);
        CHECK.due("new back", x.back(0), YearLines.STATE);
        CHECK.due("new line", x.line(0), YearLines.NONE);
    }

    private static void constants() {
        CHECK.due("BAD", YearLines.BAD, -1);
        CHECK.due("STATE", YearLines.STATE, -2);
        CHECK.due("FULL", YearLines.FULL, -3);
        CHECK.due("NONE", YearLines.NONE, -9);
        CHECK.due("NO", YearLines.NO, -1000000);
    }

    private static void typing() {
        YearLines x = new YearLines();
        CHECK.due("type(-1)", x.type(-1), YearLines.BAD);
        CHECK.due("type(256)", x.type(256), YearLines.BAD);
        CHECK.due("type(min)", x.type(Integer.MIN_VALUE), YearLines.BAD);
        CHECK.due("type(max)", x.type(Integer.MAX_VALUE), YearLines.BAD);
        CHECK.due("type(0)", x.type(0), 1);
        CHECK.due("type(255)", x.type(255), 2);
        CHECK.due("count(6)", x.count(6), 2);
        for (int i = 3; i <= 110; i++) {
            CHECK.due("type, letter " + i, x.type(' '), i);
        }
        CHECK.due("type, letter 111", x.type(' '), YearLines.FULL);
        CHECK.due("BAD comes ahead of FULL", x.type(256), YearLines.BAD);
        CHECK.due("count(6), full", x.count(6), 110);
        CHECK.due("clear(), full", x.clear(), 110);
        CHECK.due("type behind clear()", x.type('q'), 1);
    }

    private static void clearing() {
        YearLines x = Check.told("s3;qa5;");
        CHECK.due("clear(), none", x.clear(), 0);
        Check.type(x, "q;");
        CHECK.due("clear()", x.clear(), 2);
        CHECK.due("clear() again", x.clear(), 0);
        CHECK.due("clear() leaves the houses", x.count(0), 1);
        CHECK.due("clear() leaves the slack", x.count(4), 3);
    }

    private static void textsWithoutFault() {
        CHECK.due("no text", Check.answerTo(""), 0);
        CHECK.due("blanks", Check.answerTo("   "), 0);
        CHECK.due("q;", Check.answerTo("q;"), 1);
        CHECK.due("s0;", Check.answerTo("s0;"), 1);
        CHECK.due("s9;", Check.answerTo("s9;"), 1);
        CHECK.due("q;s1;q;", Check.answerTo("q;s1;q;"), 3);
        CHECK.due("four houses", Check.answerTo("q;q;q;q;s4;"), 5);
        CHECK.due("years 0 and 99", Check.answerTo("qa0b99;"), 1);
        CHECK.due("like years", Check.answerTo("qa7b7c7;"), 1);
        CHECK.due("six entries", Check.answerTo("qh1g2f3e4d5c6;"), 1);
        CHECK.due("blanks all over", Check.answerTo("  q  a  5  b  66  ;  s  2  ;  "), 2);
        String longest = "qa10b20c30d40e50f60;qa10b20c30d40e50f60;qa10b20c30d40e50f60;qa10b20c30d40e50f60;s5;";
        StringBuilder full = new StringBuilder(longest);
        while (full.length() < 110) {
            full.insert(0, ' ');
        }
        CHECK.due("a text of 110 letters", Check.answerTo(full.toString()), 5);
    }

    private static void fault(String text, int place) {
        CHECK.due("houses() of \"" + text + "\"", Check.answerTo(text), -10 - place);
    }

    private static void slackFaults() {
        fault("s1;s2;", 3);
        fault("s1;q;s1;", 5);
        fault("s10;", 1);
        fault("s 99;", 2);
        fault("s;", 1);
        fault("sq;", 1);
        fault("ss1;", 1);
        fault("sa;", 1);
        fault("s1 2;", 3);
        fault("s1q;", 2);
        fault("s1a2;", 2);
    }

    private static void houseFaults() {
        fault(";", 0);
        fault("q;;", 2);
        fault("a1;", 0);
        fault("5;", 0);
        fault("qq;", 1);
        fault("qs1;", 1);
        fault("q5;", 1);
        fault("qa;", 2);
        fault("qab1;", 2);
        fault("qa1 2;", 4);
        fault("qa1q;", 3);
        fault("qa5s;", 3);
        fault("q;q;q;q;q;", 8);
        fault("q;q;q;q; q;", 9);
        fault("qa1b2c3d4e5f6g7;", 13);
        fault("qa1b2c3d4e5f6 7;", 14);
        fault("qa5a6;", 3);
        fault("qa5b6a7;", 5);
        fault("qa5b4;", 4);
        fault("q a 50 b  49 ;", 10);
        CHECK.due("an event of another house", Check.answerTo("qa5;qa4;"), 2);
    }

    private static void numberFaults() {
        fault("qa100;", 2);
        fault("qa05;", 2);
        fault("qa00;", 2);
        fault("qa 000;", 3);
        fault("qa010;", 2);
        fault("s00;", 1);
        fault("s01;", 1);
        fault("qa99999999999999999999999999;", 2);
        fault("qa4294967301;", 2);
        fault("qa5b100;", 4);
        fault("100", 0);
    }

    private static void otherLetters() {
        fault("y", 0);
        fault("Q;", 0);
        fault("qi5;", 1);
        fault("qA5;", 1);
        fault("qr5;", 1);
        fault("qa5,b6;", 3);
        fault("qa-5;", 2);
        fault("q\t;", 1);
        fault("q;\n", 2);
        fault("q" + (char) 160 + ";", 1);
        fault("q" + (char) 0 + ";", 1);
        fault("q" + (char) 255 + ";", 1);
        fault("qa/;", 2);
        fault("qa:;", 2);
        fault("q`1;", 1);
        fault("x  ", 0);
    }

    private static void endsTooEarly() {
        fault("q", 1);
        fault("s", 1);
        fault("s1", 2);
        fault("qa", 2);
        fault("qa5", 3);
        fault("qa5   ", 6);
        fault("q;s5;q ", 7);
        fault(" q", 2);
    }

    /** What an earlier, longer text had behind the end must not be read. */
    private static void behindTheEnd() {
        YearLines x = new YearLines();
        Check.type(x, "qa567;");
        x.clear();
        Check.type(x, "qa5");
        CHECK.due("a shorter text", x.houses(), -10 - 3);
        x.type(';');
        CHECK.due("ended behind a fault", x.houses(), 1);
        StringBuilder full = new StringBuilder("qa5");
        while (full.length() < 110) {
            full.insert(0, ' ');
        }
        fault(full.toString(), 110);
        fault("q;".repeat(55), 8);
        fault("5".repeat(110), 0);
    }

    private static void firstFaultCounts() {
        fault("qa5b4a6;", 4);
        fault("a 100 y", 0);
        fault("q;5 y", 2);
        fault("qa100 y", 2);
        fault("qa 5 y 100", 5);
    }

    private static void faultChangesNothing() {
        YearLines x = Check.told("s2;qa5b9;qb3;");
        x.sees(3);
        x.keep(1);
        x.strikes(0, 0);
        Check.type(x, "s7;qc1;qd2;qe3;y");
        CHECK.due("the fault", x.houses(), -10 - 15);
        CHECK.due("the fault again", x.houses(), -10 - 15);
        CHECK.due("letters", x.count(6), 16);
        CHECK.due("houses", x.count(0), 2);
        CHECK.due("entries", x.count(1), 2);
        CHECK.due("event", x.entry(0, 0, 0), 0);
        CHECK.due("year", x.entry(1, 0, 1), 3);
        CHECK.due("struck", x.entry(0, 0, 2), 1);
        CHECK.due("slack", x.count(4), 2);
        CHECK.due("seen", x.count(5), 1);
        CHECK.due("may be undone", x.count(7), 1);
        CHECK.due("image 1", x.back(1), 2);
        CHECK.due("typed on", x.type(';'), 17);
    }

    private static void readAnew() {
        YearLines x = Check.told("s2;qa5b9;qb3;");
        x.sees(3);
        x.keep(0);
        x.keep(1);
        x.strikes(0, 0);
        x.slacks(9);
        Check.type(x, "qc8d9;");
        CHECK.due("houses()", x.houses(), 1);
        CHECK.due("letters", x.count(6), 0);
        CHECK.due("houses", x.count(0), 1);
        CHECK.due("entries", x.count(1), 2);
        CHECK.due("slack", x.count(4), 0);
        CHECK.due("seen", x.count(5), 0);
        CHECK.due("may be undone", x.count(7), 0);
        CHECK.due("undo", x.undo(), YearLines.STATE);
        CHECK.due("struck", x.entry(0, 0, 2), 0);
        CHECK.due("event", x.entry(0, 0, 0), 2);
        CHECK.due("image 0", x.back(0), YearLines.STATE);
        CHECK.due("image 1", x.back(1), YearLines.STATE);
        CHECK.due("gone house", x.entry(1, 0, 0), YearLines.BAD);
        x.strikes(0, 1);
        CHECK.due("houses() of no text", x.houses(), 0);
        CHECK.due("no houses", x.count(0), 0);
        CHECK.due("no entries", x.count(1), 0);
        CHECK.due("nothing to undo", x.count(7), 0);
    }

    private static void entries() {
        YearLines x = Check.told("qc0h99;q;qa7;");
        CHECK.due("entry(0,0,0)", x.entry(0, 0, 0), 2);
        CHECK.due("entry(0,0,1)", x.entry(0, 0, 1), 0);
        CHECK.due("entry(0,1,0)", x.entry(0, 1, 0), 7);
        CHECK.due("entry(0,1,1)", x.entry(0, 1, 1), 99);
        CHECK.due("entry(0,1,2)", x.entry(0, 1, 2), 0);
        CHECK.due("entry(2,0,0)", x.entry(2, 0, 0), 0);
        x.strikes(0, 1);
        CHECK.due("struck: event", x.entry(0, 1, 0), 7);
        CHECK.due("struck: year", x.entry(0, 1, 1), 99);
        CHECK.due("struck: struck", x.entry(0, 1, 2), 1);
        CHECK.due("the other", x.entry(0, 0, 2), 0);
        int[][] bad = {{-1, 0, 0}, {3, 0, 0}, {4, 0, 0}, {0, -1, 0}, {0, 2, 0}, {1, 0, 0}, {2, 1, 1}, {0, 0, -1},
                {0, 0, 3}, {Integer.MAX_VALUE, 0, 0}, {0, Integer.MAX_VALUE, 0}, {0, 0, Integer.MIN_VALUE}};
        for (int[] b : bad) {
            CHECK.due("entry(" + b[0] + ", " + b[1] + ", " + b[2] + ")", x.entry(b[0], b[1], b[2]), YearLines.BAD);
        }
    }
}
