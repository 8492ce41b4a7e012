/** The text's edges, sentence by sentence, as "Terms" tells them, and promises 2, 3 and 4. */
public final class EdgesOfTextTest {
    private static final Check CHECK = new Check("EdgesOfTextTest");
    private static final int MOST = 110;

    public static void main(String[] args) {
        fourHouses();
        sixEntries();
        eventsAtoH();
        eventOnceInOneHouse();
        years();
        yearsNeverFall();
        slack();
        slackOnce();
        blanks();
        blankBetweenNumbers();
        onlyBlanksAreBlank();
        itemsEndedByStop();
        housesWithoutEntries();
        noItems();
        everyLetterInEveryPlace();
        numbers();
        zeroAhead();
        longNumbers();
        endsTooEarly();
        firstFaultAlone();
        letters();
        fullText();
        fullTextsOfAllKinds();
        cleared();
        emptyBehindHouses();
        textStaysBehindFault();
        faultAtBothEnds();
        readAnew();
        readAnewShorterAndLonger();
        readAnewAsByNewObject();
        CHECK.finish();
    }

    /** The sign ^ stands ahead of the place that is the fault, and is not told. */
    private static void fault(String marked) {
        String text = marked.replace("^", "");
        CHECK.due("houses() of \"" + text + "\"", Check.answerTo(text), -10 - marked.indexOf('^'));
    }

    private static void items(String text, int due) {
        CHECK.due("houses() of \"" + text + "\"", Check.answerTo(text), due);
    }

    private static String blanks(int n) {
        return " ".repeat(n);
    }

    private static void fourHouses() {
        CHECK.about("HOUSES (4 at most); FAULT: a fifth q");
        items("q;q;q;", 3);
        items("q;q;q;q;", 4);
        items("s1;q;q;q;q;", 5);
        fault("q;q;q;q;^q;");
        fault("q;q;q;q;^q");
        fault("q;q;q;q;   ^q;");
        fault("s1;q;q;q;q;^q;");
        fault("q;q;s1;q;q;^q;");
        fault("q;q;q;q;s1;^q;");
        fault("q;q;q;q;^qa1;");
        fault("qa1;qa1;qa1;qa1;^qa1;");
        YearLines x = Check.told("qa1;qa2;qa3;qa4;");
        CHECK.due("houses", x.count(0), 4);
        CHECK.due("the fourth", x.entry(3, 0, 1), 4);
        CHECK.due("a fifth", x.entry(4, 0, 1), YearLines.BAD);
    }

    private static void sixEntries() {
        CHECK.about("ENTRIES (6 at most); FAULT: a seventh ENTRY");
        items("qa1b2c3d4e5;", 1);
        items("qa1b2c3d4e5f6;", 1);
        fault("qa1b2c3d4e5f6^g7;");
        fault("qa1b2c3d4e5f6^g");
        fault("q a1 b2 c3 d4 e5 f6  ^g 7;");
        fault("qa1b2c3d4e5f6^a7;");
        fault("qa1b2c3d4e5f6^g1;");
        fault("qa1b2c3d4e5f6 ^7;");
        fault("q;q;q;qc1d1e1f1g1h1^a1;");
        items("qa1b2c3d4e5f6;qg1h2c3d4e5f6;", 2);
        YearLines x = Check.told("qa1b2c3d4e5h6;");
        CHECK.due("the sixth", x.entry(0, 5, 0), 7);
        CHECK.due("a seventh", x.entry(0, 6, 0), YearLines.BAD);
    }

    private static void eventsAtoH() {
        CHECK.about("an EVENT (a .. h: 0 to 7)");
        for (char e = 'a'; e <= 'h'; e++) {
            CHECK.due("the number of " + e, Check.told("q" + e + "1;").entry(0, 0, 0), e - 'a');
        }
        fault("q^`1;");
        fault("q^i1;");
        fault("q^A1;");
        fault("q^H1;");
        fault("qa1^i2;");
    }

    private static void eventOnceInOneHouse() {
        CHECK.about("each once at most in one HOUSE; FAULT: an EVENT of that HOUSE already");
        fault("qa1^a2;");
        fault("qa1^a1;");
        fault("qh1^h2;");
        fault("qa1b2c3d4e5^a6;");
        fault("qa1b2c3d4e5^e6;");
        fault("q;qa1b2^a3;");
        fault("qa1^a");
        items("qa1;qa1;qa1;qa1;", 4);
        items("qa1b2;qb1a2;", 2);
    }

    private static void years() {
        CHECK.about("its YEAR there (0 .. 99)");
        items("qa0;", 1);
        items("qa99;", 1);
        items("qa0b99;", 1);
        fault("qa^100;");
        fault("qa0b^100;");
        fault("qa^-1;");
        CHECK.due("year 0", Check.told("qa0;").entry(0, 0, 1), 0);
        CHECK.due("year 99", Check.told("qa99;").entry(0, 0, 1), 99);
    }

    private static void yearsNeverFall() {
        CHECK.about("no less than that of the ENTRY ahead; FAULT: a YEAR less than that of the ENTRY ahead");
        for (int ahead = 0; ahead <= 99; ahead++) {
            String text = "qa" + ahead + "b";
            items(text + ahead + ";", 1);
            if (ahead > 0) {
                fault(text + "^" + (ahead - 1) + ";");
                fault("qc0a" + ahead + "b" + "^0;");
            }
        }
        items("qa0b0c0d0e0f0;", 1);
        items("qa99b99c99d99e99f99;", 1);
        fault("qa1b1c1d1e1f^0;");
        fault("qa9b^8c9;");
        fault("qa10b ^9;");
        items("qa99;qa0;", 2);
        items("qa99b99;qc0b0;", 2);
    }

    private static void slack() {
        CHECK.about("SLACK (0 .. 9; 0 at first)");
        for (int n = 0; n <= 9; n++) {
            CHECK.due("slack " + n, Check.told("s" + n + ";").count(4), n);
        }
        fault("s^10;");
        fault("s^99;");
        fault("s^100;");
        fault("s ^10");
        fault("s^-1;");
        CHECK.due("a new object's", new YearLines().count(4), 0);
        CHECK.due("not told", Check.told("qa1;").count(4), 0);
    }

    private static void slackOnce() {
        CHECK.about("s N (SLACK; once at most); FAULT: s again");
        items("s1;", 1);
        items("s1;q;", 2);
        items("q;s1;q;", 3);
        items("q;q;q;q;s1;", 5);
        fault("s1;^s1;");
        fault("s1;^s2;");
        fault("s0;^s0;");
        fault("s1;q;q;q;q;^s1;");
        fault("s1;^s");
        fault("s^s1;");
        fault("s1^s1;");
        YearLines x = Check.told("s1;");
        Check.type(x, "s2;");
        CHECK.due("once in each text", x.houses(), 1);
        CHECK.due("its slack", x.count(4), 2);
    }

    private static void blanks() {
        CHECK.about("blanks (32), any number, ahead of, between, behind TOKENS");
        String[] tokens = {"s", "3", ";", "q", "a", "10", "b", "20", ";", "q", ";"};
        for (int many = 0; many <= 8; many++) {
            StringBuilder text = new StringBuilder(blanks(many));
            for (String token : tokens) {
                text.append(token).append(blanks(many));
            }
            YearLines x = Check.told(text.toString());
            CHECK.due("houses, " + many + " blanks", x.count(0), 2);
            CHECK.due("slack, " + many + " blanks", x.count(4), 3);
            CHECK.due("year of a, " + many + " blanks", x.entry(0, 0, 1), 10);
            CHECK.due("year of b, " + many + " blanks", x.entry(0, 1, 1), 20);
        }
        items(blanks(1), 0);
        items(blanks(108) + "q;", 1);
        items("q" + blanks(108) + ";", 1);
        items("q;" + blanks(108), 1);
    }

    private static void blankBetweenNumbers() {
        CHECK.about("blanks needed only between two NUMBERS");
        fault("qa1 ^2;");
        fault("qa10 ^20;");
        fault("s1 ^0;");
        fault("s^10;");
        CHECK.due("12 is one number", Check.told("qa12;").entry(0, 0, 1), 12);
        items("s1;qa1b2c3;", 2);
    }

    private static void onlyBlanksAreBlank() {
        CHECK.about("blanks (32): no other letter is one");
        for (int letter : new int[] {0, 9, 10, 11, 12, 13, 31, 33, 95, 133, 160, 255}) {
            fault("q^" + (char) letter + ";");
            fault("^" + (char) letter);
            fault("q;^" + (char) letter);
            fault("qa1^" + (char) letter + "b2;");
        }
    }

    private static void itemsEndedByStop() {
        CHECK.about("ITEMS, each ended by ;");
        fault("^;");
        fault("q;^;");
        fault("s1;^;");
        fault("^;;");
        fault("q^q;");
        fault("q^s1;");
        fault("qa1^q;");
        fault("qa1^s1;");
        fault("s1^q;");
        fault("s^;");
        fault("s^q;");
        fault("s^a;");
        fault("s1^a;");
        fault("qa^;");
        fault("qa^b;");
        fault("qa^q;");
        fault("qa^s;");
        fault("q^1;");
        fault("^a1;");
        fault("^1;");
        fault("q;^1;");
        fault("q;^a1;");
    }

    private static void housesWithoutEntries() {
        CHECK.about("q and ENTRIES, none or more");
        YearLines x = Check.told("q;qa1;q;");
        CHECK.due("houses", x.count(0), 3);
        CHECK.due("entries", x.count(1), 1);
        CHECK.due("none in 0", x.entry(0, 0, 0), YearLines.BAD);
        CHECK.due("one in 1", x.entry(1, 0, 0), 0);
        CHECK.due("none more in 1", x.entry(1, 1, 0), YearLines.BAD);
        CHECK.due("none in 2", x.entry(2, 0, 0), YearLines.BAD);
    }

    private static void noItems() {
        CHECK.about("No ITEMS are no FAULT (no HOUSES, SLACK 0)");
        for (String text : new String[] {"", " ", blanks(MOST)}) {
            YearLines x = Check.told("s7;qa1;q;");
            Check.type(x, text);
            CHECK.due("houses()", x.houses(), 0);
            CHECK.due("no houses", x.count(0), 0);
            CHECK.due("no entries", x.count(1), 0);
            CHECK.due("no events", x.count(2), 0);
            CHECK.due("slack 0", x.count(4), 0);
            CHECK.due("no letters", x.count(6), 0);
            CHECK.due("no entry", x.entry(0, 0, 0), YearLines.BAD);
        }
        YearLines x = Check.told("s7;");
        CHECK.due("slack alone: no houses", x.count(0), 0);
        CHECK.due("slack alone", x.count(4), 7);
    }

    /**
     * Each of the 256 letters behind a beginning. more: letters that can stand there, but the text ends too early
     * then; ends: letters with which it is whole; back: by how much ahead of the letter the fault of a figure lies.
     */
    private static void everyLetter(String beginning, String more, String ends, int items, int back) {
        for (int letter = 0; letter <= 255; letter++) {
            char c = (char) letter;
            boolean figure = c >= '0' && c <= '9';
            int due = -10 - beginning.length() + (figure ? back : 0);
            if (ends.indexOf(c) >= 0) {
                due = items;
            } else if (more.indexOf(c) >= 0) {
                due = -10 - (beginning.length() + 1);
            }
            CHECK.due("houses() of \"" + beginning + "\" and the letter " + letter, Check.answerTo(beginning + c), due);
        }
    }

    private static void everyLetterInEveryPlace() {
        CHECK.about("FAULT: the first TOKEN that can't stand there; any other letter; it ends too early");
        everyLetter("", "sq", " ", 0, 0);
        everyLetter("q;", "sq", " ", 1, 0);
        everyLetter("s1;", "q", " ", 1, 0);
        everyLetter("q;q;q;q;", "s", " ", 4, 0);
        everyLetter("q;s1;q;q;q;", "", " ", 5, 0);
        everyLetter("s", " 0123456789", "", 0, 0);
        everyLetter("s ", " 0123456789", "", 0, 0);
        everyLetter("s1", " ", ";", 1, 1);
        everyLetter("s1 ", " ", ";", 1, 0);
        everyLetter("q", " abcdefgh", ";", 1, 0);
        everyLetter("qc5 ", " abdefgh", ";", 1, 0);
        everyLetter("qa1b2h3 ", " cdefg", ";", 1, 0);
        everyLetter("qa1b2c3d4e5f6 ", " ", ";", 1, 0);
        everyLetter("qa", " 0123456789", "", 0, 0);
        everyLetter("qa5b", " 56789", "", 0, 0);
        everyLetter("qa5", " 0123456789bcdefgh", ";", 1, 0);
        everyLetter("qa0", " bcdefgh", ";", 1, 1);
        everyLetter("qa55", " bcdefgh", ";", 1, 2);
        everyLetter("qa1;qb", " 0123456789", "", 0, 0);
    }

    private static void numbers() {
        CHECK.about("FAULT: a NUMBER above 99, a NUMBER beyond what it may be");
        for (int n = 0; n <= 1100; n++) {
            yearOrFault("qa", n, 0);
            yearOrFault("qa50b", n, 50);
            String s = "s" + n + ";";
            CHECK.due("houses() of \"" + s + "\"", Check.answerTo(s), n <= 9 ? 1 : -11);
        }
        fault("^100;");
        fault("q^100;");
        fault("qa1 ^100;");
        fault("s1 ^100;");
    }

    private static void yearOrFault(String beginning, int n, int least) {
        boolean stands = n >= least && n <= 99;
        CHECK.due("houses() of \"" + beginning + n + ";\"", Check.answerTo(beginning + n + ";"),
                stands ? 1 : -10 - beginning.length());
    }

    private static void zeroAhead() {
        CHECK.about("FAULT: a NUMBER with a 0 ahead of others");
        items("qa0;", 1);
        items("s0;", 1);
        for (int n = 0; n <= 110; n++) {
            fault("qa^0" + n + ";");
            fault("s^0" + n + ";");
            fault("qa^00" + n + ";");
        }
        fault("qa50b^099;");
        fault("^00");
        items("qa10b20;", 1);
    }

    private static void longNumbers() {
        CHECK.about("FAULT: a NUMBER above 99, however long");
        for (String n : new String[] {"256", "261", "65536", "65541", "2147483647", "2147483648", "4294967296",
                "4294967301", "9223372036854775808", "18446744073709551616", "18446744073709551621"}) {
            fault("qa^" + n + ";");
            fault("s^" + n + ";");
            fault("qa5b^" + n + ";");
        }
        fault("^" + "9".repeat(MOST));
        fault("^" + "0".repeat(MOST));
        fault("qa^" + "1".repeat(MOST - 2));
        fault("s^" + "0".repeat(MOST - 2) + "1");
    }

    private static void endsTooEarly() {
        CHECK.about("FAULT: the text's length, if it ends too early");
        String text = " s 1 ; q a 1  b 2 c30 ;q;  ";
        for (int length = 0; length <= text.length(); length++) {
            String part = text.substring(0, length);
            int stops = part.replaceAll("[^;]", "").length();
            boolean whole = part.substring(part.lastIndexOf(';') + 1).isBlank();
            CHECK.due("houses() of \"" + part + "\"", Check.answerTo(part), whole ? stops : -10 - length);
        }
        for (String open : new String[] {"s", "s1", "q", "qa", "qa1", "qa1b", "qa1b2c3d4e5f6"}) {
            fault(open + "^");
            fault(open + "   ^");
            fault("q;q;q;" + open + "^");
            fault(blanks(MOST - open.length()) + open + "^");
            fault(open + blanks(MOST - open.length()) + "^");
        }
    }

    private static void firstFaultAlone() {
        CHECK.about("FAULT: the first TOKEN that can't stand there");
        fault("qa5b^4c3;");
        fault("q;^5 y");
        fault("qa^100 y");
        fault("qa5 ^y 100");
        fault("qa5^y b4 a3;;");
        fault("^a 100 y");
        fault("s^10;s1;");
        fault("qa5^a4;");
        fault("q;q;q;q;^q y");
        fault("s1;^s 10;");
        fault("^yqa5b4;");
    }

    private static void letters() {
        CHECK.about("A letter (0 .. 255) comes to THE TEXT: how many it has");
        int[] bad = {-1, 256, -2, 257, 512, -256, -224, 65536, 65649, Integer.MIN_VALUE, Integer.MAX_VALUE};
        YearLines x = new YearLines();
        for (int letter : bad) {
            CHECK.due("type(" + letter + ")", x.type(letter), YearLines.BAD);
        }
        CHECK.due("none has come", x.count(6), 0);
        for (int letter = 0; letter <= 255; letter++) {
            YearLines y = new YearLines();
            CHECK.due("type(" + letter + ")", y.type(letter), 1);
            CHECK.due("letters", y.count(6), 1);
        }
        CHECK.due("type(0)", x.type(0), 1);
        CHECK.due("type(255)", x.type(255), 2);
    }

    private static void fullText() {
        CHECK.about("a text (110 letters at most); FULL: 110");
        YearLines x = new YearLines();
        CHECK.due("108 letters", Check.type(x, blanks(108)), 108);
        CHECK.due("the 109th", x.type('q'), 109);
        CHECK.due("the 110th", x.type(';'), 110);
        CHECK.due("the 111th", x.type(';'), YearLines.FULL);
        CHECK.due("the 111th, a blank", x.type(' '), YearLines.FULL);
        CHECK.due("BAD comes ahead of FULL, below", x.type(-1), YearLines.BAD);
        CHECK.due("BAD comes ahead of FULL, above", x.type(256), YearLines.BAD);
        CHECK.due("letters", x.count(6), 110);
        CHECK.due("a refused letter has not come", x.houses(), 1);
        CHECK.due("there is room again", x.type('q'), 1);
    }

    private static void fullTextsOfAllKinds() {
        CHECK.about("a text (110 letters at most), read whole");
        String house = "qa10b20c30d40e50f60;";
        String most = "s9;" + house.repeat(4);
        items(most + blanks(MOST - most.length()), 5);
        items(blanks(MOST - most.length()) + most, 5);
        items("s9;" + blanks(MOST - most.length()) + house.repeat(4), 5);
        YearLines x = Check.told(blanks(MOST - most.length()) + most);
        CHECK.due("the last entry", x.entry(3, 5, 1), 60);
        CHECK.due("entries", x.count(1), 24);
        fault(blanks(MOST - 1) + "^y");
        fault(blanks(MOST - 1) + "^;");
        fault("q;q;q;q;^" + "q;".repeat(51));
        fault("^" + ";".repeat(MOST));
        fault("^" + "a".repeat(MOST));
        fault("q^" + "q".repeat(MOST - 1));
        fault("s^" + "s".repeat(MOST - 1));
    }

    private static void cleared() {
        CHECK.about("THE TEXT is empty: how many letters it had");
        YearLines x = new YearLines();
        CHECK.due("of a new object", x.clear(), 0);
        x.type('q');
        CHECK.due("one", x.clear(), 1);
        CHECK.due("none", x.clear(), 0);
        Check.type(x, blanks(MOST));
        x.type(' ');
        CHECK.due("full", x.clear(), 110);
        CHECK.due("letters", x.count(6), 0);
        CHECK.due("houses() of it", x.houses(), 0);
        Check.type(x, "qa55;");
        x.clear();
        Check.type(x, "qa");
        CHECK.due("what was cleared is not read", x.houses(), -12);
    }

    private static void emptyBehindHouses() {
        CHECK.about("THE TEXT tells all anew, and is empty then");
        YearLines x = Check.told("s1;qa1;");
        CHECK.due("letters", x.count(6), 0);
        CHECK.due("clear()", x.clear(), 0);
        CHECK.due("type", x.type('q'), 1);
        CHECK.due("what was read is not read again", x.houses(), -11);
        CHECK.due("how many ITEMS, not HOUSES", Check.answerTo("q;s1;"), 2);
    }

    private static void textStaysBehindFault() {
        CHECK.about("-10 less FAULT: nothing changes (THE TEXT stays, too)");
        YearLines x = new YearLines();
        Check.type(x, "qa5");
        CHECK.due("too early", x.houses(), -13);
        CHECK.due("again", x.houses(), -13);
        CHECK.due("letters", x.count(6), 3);
        CHECK.due("the next letter", x.type(';'), 4);
        CHECK.due("whole", x.houses(), 1);
        CHECK.due("its year", x.entry(0, 0, 1), 5);
        Check.type(x, blanks(MOST - 1) + "y");
        CHECK.due("a full text's fault", x.houses(), -119);
        CHECK.due("it is full still", x.type(' '), YearLines.FULL);
        CHECK.due("the fault again", x.houses(), -119);
        CHECK.due("the year stays", x.entry(0, 0, 1), 5);
        CHECK.due("clear()", x.clear(), 110);
    }

    private static void faultAtBothEnds() {
        CHECK.about("-10 less FAULT, from place 0 to the text's length");
        items("y", -10);
        items(" y", -11);
        items(blanks(MOST - 1) + "y", -119);
        items(blanks(MOST - 1) + "q", -120);
    }

    private static void readAnew() {
        CHECK.about("Read anew: as told, nothing STRUCK, nothing can be UNDONE, nothing SEEN, IMAGES are gone");
        for (String text : new String[] {"s4;qa1b2c3d4e5f6;", "qa1b2c3d4e5f6;", "", "q;"}) {
            YearLines x = Check.told("s4;qa1b2c3d4e5f6;");
            for (int k = 0; k < 6; k++) {
                x.strikes(0, k);
            }
            x.slacks(5);
            x.tells(0, 5, 99);
            x.sees(1);
            x.sees(0);
            x.keep(0);
            x.keep(1);
            Check.type(x, text);
            int items = x.houses();
            CHECK.due("items", items, text.replaceAll("[^;]", "").length());
            CHECK.due("slack", x.count(4), text.startsWith("s4") ? 4 : 0);
            CHECK.due("entries", x.count(1), text.length() > 2 ? 6 : 0);
            CHECK.due("the last entry's year", x.entry(0, 5, 1), text.length() > 2 ? 6 : YearLines.BAD);
            for (int k = 0; k < 6; k++) {
                CHECK.due("struck", x.entry(0, k, 2), text.length() > 2 ? 0 : YearLines.BAD);
            }
            CHECK.due("may be undone", x.count(7), 0);
            CHECK.due("undo()", x.undo(), YearLines.STATE);
            CHECK.due("seen", x.count(5), 0);
            CHECK.due("forget()", x.forget(), 0);
            CHECK.due("back(0)", x.back(0), YearLines.STATE);
            CHECK.due("back(1)", x.back(1), YearLines.STATE);
        }
    }

    private static void readAnewShorterAndLonger() {
        CHECK.about("THE TEXT tells all anew");
        YearLines x = Check.told("qa1b2c3d4e5f6;qa1b2c3d4e5f6;qa1;q;");
        Check.type(x, "qh9;");
        CHECK.due("fewer", x.houses(), 1);
        CHECK.due("houses", x.count(0), 1);
        CHECK.due("events", x.count(2), 1);
        CHECK.due("house 0 has one", x.entry(0, 1, 0), YearLines.BAD);
        CHECK.due("house 1 is gone", x.entry(1, 0, 0), YearLines.BAD);
        CHECK.due("a is gone", x.event(0, 0), 0);
        Check.type(x, "qb1;qc2g3;");
        CHECK.due("more", x.houses(), 2);
        CHECK.due("house 1 is there", x.entry(1, 1, 0), 6);
        CHECK.due("and has two", x.entry(1, 2, 0), YearLines.BAD);
        CHECK.due("h is gone", x.event(7, 0), 0);
    }

    /** Whatever was told or refused ahead, of four full houses too, nothing of it is left in any of the four. */
    private static void readAnewAsByNewObject() {
        CHECK.about("THE TEXT tells all anew (what is not told as at first)");
        String full = "qa1b2c3d4e5f6;".repeat(4);
        String[] ahead = {full, "s9;" + full, "s9;q;q;q;qh0a99;", "qc1;qc2;qc3;qc4;"};
        String[] refused = {"", full.substring(0, full.length() - 1), "s8;q;q;q;qg5h"};
        String[] then = {"q;q;q;q;", "qh9;qh8;qh7;qh6;", "q;q;q;qf1e1d1c1b1a1;", "q;", ""};
        for (String first : ahead) {
            for (String fault : refused) {
                for (String last : then) {
                    YearLines x = Check.told(first);
                    Check.type(x, fault);
                    CHECK.due("a fault, or no items", x.houses(), fault.isEmpty() ? 0 : -10 - fault.length());
                    x.clear();
                    Check.type(x, last);
                    x.houses();
                    String label = "\"" + last + "\" behind \"" + first + "\", \"" + fault + "\"";
                    YearLines y = Check.told(last);
                    Looks.sameEntries(CHECK, label, x, y);
                    Looks.same(CHECK, label, x, y);
                }
            }
        }
    }
}
