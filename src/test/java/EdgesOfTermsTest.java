/** The edges of what sections 2 and 3 of "Terms" tell: what is struck, spans, shifts, chains, lines, images. */
public final class EdgesOfTermsTest {
    private static final Check CHECK = new Check("EdgesOfTermsTest");

    public static void main(String[] args) {
        noneStruckAtFirst();
        struckIsAsIfNotTold();
        allStruck();
        spanJustWithinSlack();
        spanByGreatestAndLeast();
        firstSpanAsLongAsCanBe();
        noneToSixSpans();
        spansOfFarYears();
        shiftOfAllKindsOfLikeOnes();
        shiftByMostAlone();
        shiftWithoutCommon();
        agreedAndAgainstOfHouseZero();
        aheadByOneYear();
        longestChain();
        allEventsAreKnots();
        besideKnots();
        lineOfNoneAndOfAll();
        lineOnlyWithoutKnots();
        dateByTheLowestHouse();
        farDates();
        toldBetweenNeighbours();
        tenAreKnown();
        lostOnesDoNotComeBack();
        tenOfManyEntries();
        withoutOneHouse();
        withoutTwoHouses();
        withoutThreeHouses();
        withoutNone();
        measuresFromNoneToSix();
        measureOfHouseZeroWithoutEntries();
        ranksOfLikeHouses();
        seenFromNoneToSix();
        seenNoneToEightKnots();
        unseenFirst();
        struckIsNotUnseen();
        imagesKeepThreeThings();
        bothImagesKept();
        nothingUndoneBehindBack();
        CHECK.finish();
    }

    private static void noneStruckAtFirst() {
        CHECK.about("An ENTRY may be STRUCK (none at first)");
        YearLines x = Check.told("qa1b2c3d4e5f6;qa1b2c3d4e5f6;qa1b2c3d4e5f6;qa1b2c3d4e5f6;");
        for (int place = 0; place < 24; place++) {
            CHECK.due("entry " + place, x.entry(place / 6, place % 6, 2), 0);
        }
        CHECK.due("entries that are not struck", x.count(1), 24);
    }

    /** Whatever does not tell an entry's number must be as if the text had never told the entry. */
    private static void struckIsAsIfNotTold() {
        CHECK.about("STRUCK: it does not count anywhere");
        String[][] texts = {
            {"a10", "b20", "c30", "d40"}, {"a12", "b21", "c33", "e40"}, {"d1", "c2", "b3", "g4"}, {"h5", "a6", "e7"}};
        String[][] likeYears = {{"a1", "b1", "c2"}, {"c1", "a1", "b2"}, {"b0", "h0"}, {"h9"}};
        for (String[][] houses : new String[][][] {texts, likeYears}) {
            for (int house = 0; house < houses.length; house++) {
                for (int k = 0; k < houses[house].length; k++) {
                    YearLines x = Check.told(text(houses, -1, -1));
                    YearLines y = Check.told(text(houses, house, k));
                    CHECK.due("strikes(" + house + ", " + k + ")", x.strikes(house, k), 1);
                    Looks.same(CHECK, "struck " + house + ", " + k, x, y);
                }
            }
        }
    }

    private static String text(String[][] houses, int leftHouse, int leftK) {
        StringBuilder b = new StringBuilder("s2;");
        for (int house = 0; house < houses.length; house++) {
            b.append('q');
            for (int k = 0; k < houses[house].length; k++) {
                b.append(house == leftHouse && k == leftK ? "" : houses[house][k]);
            }
            b.append(';');
        }
        return b.toString();
    }

    private static void allStruck() {
        CHECK.about("STRUCK: it does not count anywhere");
        YearLines x = Check.told("s3;qa1b2c3d4e5f6;qb1a2;qg9;q;");
        for (int k = 0; k < 6; k++) {
            x.strikes(0, k);
        }
        x.strikes(1, 0);
        x.strikes(1, 1);
        x.strikes(2, 0);
        Looks.same(CHECK, "all struck", x, Check.told("s3;q;q;q;q;"));
    }

    private static void spans(String text, int... sizes) {
        YearLines x = Check.told(text);
        CHECK.due("spans of " + text, x.span(0, 1, -1, 0), sizes.length);
        for (int k = 0; k < sizes.length; k++) {
            CHECK.due("span " + k + " of " + text, x.span(0, 1, k, 2), sizes[k]);
        }
        CHECK.due("the span behind the last of " + text, x.span(0, 1, sizes.length, 2), YearLines.NO);
    }

    private static void spanJustWithinSlack() {
        CHECK.about("the greatest OFFSET is no more than SLACK above the least");
        for (int slack = 0; slack <= 9; slack++) {
            String s = "s" + slack + ";";
            spans(s + "qa10b40;qa10b" + (40 + slack) + ";", 2);
            spans(s + "qa10b40;qa10b" + (41 + slack) + ";", 1, 1);
            spans(s + "qa10b40;qa10b" + (40 - slack) + ";", 2);
            spans(s + "qa10b40;qa10b" + (39 - slack) + ";", 1, 1);
        }
        YearLines x = Check.told("qa10b40;qa10b49;");
        CHECK.due("slack 0", x.span(0, 1, -1, 0), 2);
        x.slacks(8);
        CHECK.due("slack 8", x.span(0, 1, -1, 0), 2);
        x.slacks(9);
        CHECK.due("slack 9", x.span(0, 1, -1, 0), 1);
        CHECK.due("offset", x.span(0, 1, 0, 3), 0);
        CHECK.due("offset, the other way", x.span(1, 0, 0, 3), -9);
    }

    private static void spanByGreatestAndLeast() {
        CHECK.about("in each of which the greatest OFFSET is no more than SLACK above the least");
        spans("s2;qa10b20c30d40e50f60;qa10b21c32d43e54f65;", 3, 3);
        spans("s2;qa10b20c30d40e50f60;qa15b24c33d42e51f60;", 3, 3);
        spans("s2;qa10b20c30d40;qa11b20c32d43;", 3, 1);
        spans("s2;qa10b20c30d40;qa11b22c30d39;", 3, 1);
    }

    private static void firstSpanAsLongAsCanBe() {
        CHECK.about("the first one as long as can be, then the second ..; its OFFSET is the least one in it");
        YearLines x = Check.told("s1;qa10b20c30d40;qa10b21c32d41;");
        CHECK.due("spans", x.span(0, 1, -1, 0), 2);
        int[][] due = {{0, 1, 2, 0}, {2, 3, 2, 1}};
        for (int k = 0; k < due.length; k++) {
            for (int what = 0; what < 4; what++) {
                CHECK.due("span(0, 1, " + k + ", " + what + ")", x.span(0, 1, k, what), due[k][what]);
            }
        }
        spans("s1;qa10b20c30;qa10b22c31;", 1, 2);
        spans("qa10b20c30d40;qa11b21c30d41;", 2, 1, 1);
    }

    private static void noneToSixSpans() {
        CHECK.about("How many SPANS; of the k-th; there are not so many");
        String all = "qa10b20c30d40e50f60;q";
        String[] entries = {"a10", "b21", "c32", "d43", "e54", "f65"};
        StringBuilder told = new StringBuilder();
        for (int n = 0; n <= 6; n++) {
            YearLines x = Check.told(all + told + ";");
            CHECK.due("spans of " + n + " common", x.span(0, 1, -1, 0), n);
            for (int k = 0; k <= 7; k++) {
                CHECK.due("offset of span " + k + " of " + n, x.span(0, 1, k, 3), k < n ? k : YearLines.NO);
                CHECK.due("first of span " + k + " of " + n, x.span(0, 1, k, 0), k < n ? k : YearLines.NO);
                CHECK.due("last of span " + k + " of " + n, x.span(0, 1, k, 1), k < n ? k : YearLines.NO);
            }
            CHECK.due("measure 2", x.measure(1, 2), n);
            told.append(n < 6 ? entries[n] : "");
        }
    }

    private static void spansOfFarYears() {
        CHECK.about("OFFSET: its YEAR in q less that in p");
        YearLines x = Check.told("s9;qa0b99;qb0a99;");
        CHECK.due("spans", x.span(0, 1, -1, 0), 2);
        CHECK.due("a", x.span(0, 1, 0, 3), 99);
        CHECK.due("b", x.span(0, 1, 1, 3), -99);
        CHECK.due("b, the other way", x.span(1, 0, 0, 3), 99);
        CHECK.due("a, the other way", x.span(1, 0, 1, 3), -99);
    }

    /** House 0 has a10, b30, c50, d70; the offsets are those of house 1. */
    private static void shifted(int due, int... offsets) {
        StringBuilder b = new StringBuilder("qa10b30c50d70;q");
        int bits = 0;
        for (int i = 0; i < offsets.length; i++) {
            b.append((char) ('a' + i)).append(10 + 20 * i + offsets[i]);
            bits |= offsets[i] == due ? 1 << i : 0;
        }
        YearLines x = Check.told(b.append(";").toString());
        String text = b.toString();
        CHECK.due("shift of " + text, x.shift(1, 0), due);
        CHECK.due("agreed of " + text, x.shift(1, 1), bits);
        CHECK.due("against of " + text, x.shift(1, 2), (1 << offsets.length) - 1 - bits);
        CHECK.due("measure 1 of " + text, x.measure(1, 1), Integer.bitCount(bits));
    }

    private static void shiftOfAllKindsOfLikeOnes() {
        CHECK.about("of several the least without sign, of these the one below 0");
        for (int n = 1; n <= 9; n++) {
            shifted(-n, n, -n);
            shifted(-n, -n, n);
            shifted(n, n, n + 1);
            shifted(n, n + 1, n);
            shifted(n, n, -n - 1);
            shifted(-n, -n, n + 1);
            shifted(-n, n + 1, -n);
            shifted(0, 0, -n);
            shifted(0, n, 0);
            shifted(-n, n, -n, n, -n);
            shifted(-n, -n, n, -n, n);
        }
        shifted(-1, 3, 2, 1, -1);
        shifted(1, 4, 3, 2, 1);
    }

    private static void shiftByMostAlone() {
        CHECK.about("the OFFSET that the most COMMON EVENTS have");
        shifted(9, 0, 9, 9);
        shifted(9, 9, 0, 9);
        shifted(9, 9, -9, 9);
        shifted(9, -9, 9, 0, 9);
        shifted(5, 5);
        shifted(-5, -5);
        shifted(7, 7, 7, 7, 7);
        YearLines x = Check.told("s9;qa10b30c50;qa11b32c52;");
        CHECK.due("slack does not matter", x.shift(1, 0), 2);
        YearLines y = Check.told("qa99b99;qa0b0;qa99b99;");
        CHECK.due("by 99 years", y.shift(1, 0), -99);
        CHECK.due("by none", y.shift(2, 0), 0);
        CHECK.due("by 99 years more", Check.told("qa0;qa99;").shift(1, 0), 99);
    }

    private static void shiftWithoutCommon() {
        CHECK.about("SHIFT: 0 (no COMMON ones; HOUSE 0)");
        YearLines x = Check.told("qa10;qb40;q;qa15b40;");
        for (int house = 0; house < 3; house++) {
            CHECK.due("shift of " + house, x.shift(house, 0), 0);
            CHECK.due("agreed of " + house, x.shift(house, 1), house == 0 ? 1 : 0);
            CHECK.due("against of " + house, x.shift(house, 2), 0);
        }
        CHECK.due("with a common one", x.shift(3, 0), 5);
        x.strikes(3, 0);
        CHECK.due("struck there", x.shift(3, 0), 0);
        CHECK.due("agreed", x.shift(3, 1), 0);
        x.undo();
        x.strikes(0, 0);
        CHECK.due("struck in house 0", x.shift(3, 0), 0);
    }

    private static void agreedAndAgainstOfHouseZero() {
        CHECK.about("HOUSE 0: all its EVENTS, none");
        YearLines x = Check.told("qa1b2c3f4g5h6;qa9;");
        CHECK.due("agreed", x.shift(0, 1), Check.bits("abcfgh"));
        CHECK.due("against", x.shift(0, 2), 0);
        CHECK.due("measure 1", x.measure(0, 1), 6);
        YearLines crossed = Check.told("qa1;qb1c2;qb1c3;");
        CHECK.due("what two others have in common", crossed.span(1, 2, -1, 0), 2);
        CHECK.due("is not against house 0", crossed.shift(0, 2), 0);
        YearLines none = Check.told("q;qa1;");
        CHECK.due("without entries", none.shift(0, 1), 0);
        CHECK.due("without entries, against", none.shift(0, 2), 0);
        CHECK.due("without entries, measure 1", none.measure(0, 1), 0);
    }

    private static void aheadByOneYear() {
        CHECK.about("AHEAD: if in some HOUSE its YEAR is less");
        YearLines x = Check.told("qa5b5;qa5b5;qa5b5;qb5a5;");
        CHECK.due("a, like years", x.event(0, 1), 0);
        CHECK.due("b, like years", x.event(1, 1), 0);
        x.tells(3, 1, 6);
        CHECK.due("b, by one year in one house", x.event(1, 1), 1);
        CHECK.due("a", x.event(0, 1), 0);
        x.tells(0, 0, 4);
        CHECK.due("a, by one year in another house", x.event(0, 1), 2);
        CHECK.due("knots", x.count(3), 2);
        CHECK.due("years 0 and 99", Check.told("qh0a99;").event(7, 1), 1);
        CHECK.due("in different houses alone", Check.told("qa1;qb2;").event(0, 1), 0);
    }

    private static void longestChain() {
        CHECK.about("CHAIN: it is AHEAD, or AHEAD of one that has a CHAIN to it");
        YearLines x = Check.told("qf1g2h3;qd1e2f3;qb1c2d3;qa1b2;");
        for (int e = 0; e < 8; e++) {
            CHECK.due("chains of " + e, x.event(e, 2), 255 & ~((2 << e) - 1));
            CHECK.due("knot " + e, x.event(e, 3), 0);
            CHECK.due("line", x.line(e), e);
        }
        YearLines y = Check.told("qc1b2a3;qe1d2c3;qg1f2e3;qh1g2;");
        for (int e = 0; e < 8; e++) {
            CHECK.due("chains of " + e + ", from behind", y.event(e, 2), (1 << e) - 1);
            CHECK.due("line from behind", y.line(e), 7 - e);
        }
    }

    private static void allEventsAreKnots() {
        CHECK.about("KNOT: an EVENT that has a CHAIN to itself");
        YearLines x = Check.told("qa1b2c3;qc1d2e3;qe1f2g3;qg1h2a3;");
        for (int e = 0; e < 8; e++) {
            CHECK.due("chains of " + e, x.event(e, 2), 255);
            CHECK.due("knot " + e, x.event(e, 3), 1);
        }
        CHECK.due("knots", x.count(3), 8);
        CHECK.due("measure 4", x.measure(0, 4), 3);
        x.strikes(3, 2);
        CHECK.due("knots without one entry", x.count(3), 0);
        x.undo();
        x.tells(3, 2, 2);
        CHECK.due("knots, the ring by g still", x.count(3), 7);
        CHECK.due("h", x.event(7, 3), 0);
    }

    private static void besideKnots() {
        CHECK.about("KNOT: a CHAIN to a KNOT, or from one, makes none");
        YearLines x = Check.told("qa1b2c3d4;qc1b2;qh1;");
        CHECK.due("a, ahead of both", x.event(0, 3), 0);
        CHECK.due("b", x.event(1, 3), 1);
        CHECK.due("c", x.event(2, 3), 1);
        CHECK.due("d, behind both", x.event(3, 3), 0);
        CHECK.due("h, alone", x.event(7, 3), 0);
        CHECK.due("an event of no house", x.event(5, 3), 0);
        CHECK.due("knots", x.count(3), 2);
        CHECK.due("two knots at least, never one", Check.told("qa1b1;qb1a1;").count(3), 0);
    }

    private static void line(YearLines x, String due) {
        for (int k = 0; k <= 8; k++) {
            CHECK.due("line(" + k + "), due " + due, x.line(k), k < due.length() ? due.charAt(k) - 'a' : YearLines.NONE);
        }
    }

    private static void lineOfNoneAndOfAll() {
        CHECK.about("LINE: EVENTS of all HOUSES: the lowest one of which none that is left is AHEAD comes next");
        line(new YearLines(), "");
        line(Check.told("q;q;"), "");
        line(Check.told("qh5;"), "h");
        line(Check.told("qh5;qa99;"), "ah");
        line(Check.told("qa1b1c1d1e1f1;qh1g1;"), "abcdefgh");
        line(Check.told("qh1g2f3e4d5c6;qc1b2a3;"), "hgfedcba");
        line(Check.told("qh1a2;qb1c2;"), "bcha");
        line(Check.told("qc1a2b3;"), "cab");
        line(Check.told("qa1b2;qa1c2;qa1d2;qe5;"), "abcde");
        line(Check.told("qe1a2;qa1b2;qa1c2;"), "eabc");
        line(Check.told("qh0a1;qh0b1;qh0c1;qg5;"), "ghabc");
        YearLines x = Check.told("qa1;q;");
        x.strikes(0, 0);
        line(x, "");
    }

    private static void lineOnlyWithoutKnots() {
        CHECK.about("LINE: if there are no KNOTS; NONE");
        YearLines x = Check.told("qa1b2c3;qh1g2;qg1h2;");
        line(x, "");
        x.strikes(2, 0);
        line(x, "abchg");
        x.undo();
        line(x, "");
    }

    private static void dateByTheLowestHouse() {
        CHECK.about("DATE: its YEAR in the lowest HOUSE that has it, less SHIFT of that");
        YearLines x = Check.told("qa10b20;qa15b26c31;qb21c41d50;qd1e2;");
        CHECK.due("a", x.date(0), 10);
        CHECK.due("b", x.date(1), 20);
        CHECK.due("c", x.date(2), 26);
        CHECK.due("d", x.date(3), 49);
        CHECK.due("e", x.date(4), 2);
        CHECK.due("f", x.date(5), YearLines.NO);
        x.strikes(1, 2);
        CHECK.due("c, struck in house 1", x.date(2), 40);
        x.strikes(2, 1);
        CHECK.due("c, struck in both", x.date(2), YearLines.NO);
        CHECK.due("late of c", x.late(2, 0), YearLines.NO);
        CHECK.due("late by c", x.late(0, 2), YearLines.NO);
    }

    private static void farDates() {
        CHECK.about("LATE: by how many DATES the one is behind the other (below 0: ahead)");
        YearLines x = Check.told("qc0a99;qa0b99;qd0c99;");
        CHECK.due("the latest date", x.date(1), 198);
        CHECK.due("the earliest date", x.date(3), -99);
        CHECK.due("b behind d", x.late(1, 3), 297);
        CHECK.due("d ahead of b", x.late(3, 1), -297);
        CHECK.due("a behind c", x.late(0, 2), 99);
        CHECK.due("c ahead of a", x.late(2, 0), -99);
        YearLines y = Check.told("qa10b10;qa13c13;");
        CHECK.due("in one year", y.late(0, 1), 0);
        CHECK.due("of one date", y.late(0, 2), 0);
    }

    private static void toldBetweenNeighbours() {
        CHECK.about("TOLD: no less than that of the one ahead, no more than that of the one behind, STRUCK ones, too");
        for (int struck = 0; struck < 8; struck++) {
            for (int year = 0; year <= 99; year++) {
                YearLines x = Check.told("qa40b50c60;");
                for (int k = 0; k < 3; k++) {
                    if ((struck >> k & 1) != 0) {
                        x.strikes(0, k);
                    }
                }
                boolean may = year >= 40 && year <= 60 && year != 50;
                CHECK.due("tells(0, 1, " + year + ")", x.tells(0, 1, year), may ? 50 : YearLines.STATE);
                CHECK.due("its year", x.entry(0, 1, 1), may ? year : 50);
                CHECK.due("whether it is struck", x.entry(0, 1, 2), struck >> 1 & 1);
            }
        }
        YearLines x = Check.told("qa40b50;qa1;");
        CHECK.due("the first, to 0", x.tells(0, 0, 0), 40);
        CHECK.due("the first, to the one behind", x.tells(0, 0, 50), 0);
        CHECK.due("the first, above it", x.tells(0, 0, 51), YearLines.STATE);
        CHECK.due("the last, to 99", x.tells(0, 1, 99), 50);
        CHECK.due("the last, to the one ahead", x.tells(0, 1, 50), 99);
        CHECK.due("the last, below it", x.tells(0, 1, 49), YearLines.STATE);
        CHECK.due("one alone, to 99", x.tells(1, 0, 99), 1);
        CHECK.due("one alone, to 0", x.tells(1, 0, 0), 99);
        YearLines y = Check.told("qa50b50c50;");
        CHECK.due("no room below", y.tells(0, 1, 49), YearLines.STATE);
        CHECK.due("no room above", y.tells(0, 1, 51), YearLines.STATE);
    }

    private static void tenAreKnown() {
        CHECK.about("UNDONE: 10 are known, older ones are lost");
        for (int done = 0; done <= 13; done++) {
            YearLines x = Check.told("qa0;");
            for (int year = 1; year <= done; year++) {
                x.tells(0, 0, year);
            }
            int known = Math.min(done, 10);
            CHECK.due("known of " + done, x.count(7), known);
            for (int left = known - 1; left >= 0; left--) {
                CHECK.due("undo()", x.undo(), left);
            }
            CHECK.due("undo(), none", x.undo(), YearLines.STATE);
            CHECK.due("the year then", x.entry(0, 0, 1), done - known);
        }
    }

    private static void lostOnesDoNotComeBack() {
        CHECK.about("UNDONE: the latest strikes(), tells(), slacks() that was not refused; older ones are lost");
        YearLines x = Check.told("qa0b99;");
        for (int n = 1; n <= 11; n++) {
            x.tells(0, 0, n);
        }
        x.undo();
        CHECK.due("nine are left", x.count(7), 9);
        x.slacks(5);
        CHECK.due("ten again", x.count(7), 10);
        x.strikes(0, 1);
        CHECK.due("ten still", x.count(7), 10);
        CHECK.due("undo strikes", x.undo(), 9);
        CHECK.due("b", x.entry(0, 1, 2), 0);
        CHECK.due("undo slacks", x.undo(), 8);
        CHECK.due("slack", x.count(4), 0);
        for (int left = 7; left >= 0; left--) {
            CHECK.due("undo tells", x.undo(), left);
            CHECK.due("year", x.entry(0, 0, 1), left + 2);
        }
        CHECK.due("none", x.undo(), YearLines.STATE);
    }

    /** Each entry of two houses is struck once: the latest ten, and no others, come back. */
    private static void tenOfManyEntries() {
        CHECK.about("UNDONE: 10 are known, older ones are lost");
        YearLines x = Check.told("qa1b2c3d4e5f6;q;qa1b2c3d4e5f6;");
        for (int place = 0; place < 12; place++) {
            x.strikes(place / 6 * 2, place % 6);
        }
        for (int left = 9; left >= 0; left--) {
            CHECK.due("undo()", x.undo(), left);
            for (int place = 0; place < 12; place++) {
                CHECK.due("whether " + place + " is struck, " + left + " left", x.entry(place / 6 * 2, place % 6, 2),
                        place < left + 2 ? 1 : 0);
            }
        }
        CHECK.due("none", x.undo(), YearLines.STATE);
    }

    /** Houses that tell these orders of events, a year apart. */
    private static YearLines orders(String... orders) {
        StringBuilder b = new StringBuilder();
        for (String order : orders) {
            b.append('q');
            for (int i = 0; i < order.length(); i++) {
                b.append(order.charAt(i)).append(i + 1);
            }
            b.append(';');
        }
        return Check.told(b.toString());
    }

    private static void withoutOneHouse() {
        CHECK.about("WITHOUT: the fewest HOUSES without which there are no KNOTS");
        for (int one = 0; one < 4; one++) {
            String[] orders = {"ab", "ab", "ab", "ab"};
            orders[one] = "ba";
            CHECK.due("house " + one, orders(orders).without(), 1 << one);
        }
        CHECK.due("either of two", orders("ab", "ba").without(), 1);
        CHECK.due("one of a ring", orders("ab", "bc", "cd", "da").without(), 1);
        CHECK.due("one of a ring of three, another ahead", orders("ef", "ab", "bc", "ca").without(), 2);
        CHECK.due("one is fewer than two of a lesser number", orders("ab", "cd", "ef", "badc").without(), 8);
    }

    private static void withoutTwoHouses() {
        CHECK.about("WITHOUT: of several such sets the least number (bits)");
        for (int i = 0; i < 4; i++) {
            for (int j = i + 1; j < 4; j++) {
                String[] orders = {"abc", "abc", "abc", "abc"};
                orders[i] = "bac";
                orders[j] = "cab";
                CHECK.due("houses " + i + ", " + j, orders(orders).without(), 1 << i | 1 << j);
            }
        }
        CHECK.due("0, 1 or 2, 3", orders("ab", "ab", "ba", "ba").without(), 3);
        CHECK.due("0, 2 or 1, 3", orders("ab", "ba", "ab", "ba").without(), 5);
        CHECK.due("0, 3 or 1, 2", orders("ab", "ba", "ba", "ab").without(), 6);
        CHECK.due("any two of three", orders("abc", "bca", "cab").without(), 3);
    }

    private static void withoutThreeHouses() {
        CHECK.about("WITHOUT: of several such sets the least number (bits)");
        CHECK.due("any three of four", orders("abc", "acb", "bac", "bca").without(), 7);
        CHECK.due("any three of four, six events", orders("abcdef", "fedcba", "bcdefa", "cbadef").without(), 7);
    }

    private static void withoutNone() {
        CHECK.about("WITHOUT: 0: there are none");
        CHECK.due("no houses", new YearLines().without(), 0);
        CHECK.due("one house", orders("abcdef").without(), 0);
        CHECK.due("houses without entries", Check.told("q;q;q;q;").without(), 0);
        CHECK.due("four houses of one mind", orders("abcdef", "bdf", "ace", "fgh").without(), 0);
        YearLines x = orders("ab", "ba");
        x.tells(1, 0, 2);
        CHECK.due("like years", x.without(), 0);
    }

    private static void measuresFromNoneToSix() {
        CHECK.about("MEASURES: 0 ENTRIES, 1 AGREED, 2 SPANS, 3 EVENTS that no other HOUSE has, 4 KNOTS");
        String[] entries = {"a11", "b21", "c31", "d41", "e51", "f61"};
        StringBuilder told = new StringBuilder();
        for (int n = 0; n <= 6; n++) {
            YearLines x = Check.told("qa10b20c30d40e50f60;q" + told + ";");
            int[] due = {n, n, n == 0 ? 0 : 1, 0, 0};
            for (int by = 0; by < 5; by++) {
                CHECK.due("measure(1, " + by + ") of " + n, x.measure(1, by), due[by]);
            }
            CHECK.due("measure(0, 3) of " + n, x.measure(0, 3), 6 - n);
            told.append(n < 6 ? entries[n] : "");
        }
        YearLines all = orders("abcdef", "fedcba");
        CHECK.due("six knots", all.measure(0, 4), 6);
        CHECK.due("six knots", all.measure(1, 4), 6);
        CHECK.due("six alone", orders("abcdef", "gh").measure(0, 3), 6);
    }

    private static void measureOfHouseZeroWithoutEntries() {
        CHECK.about("2 SPANS of HOUSE 0 and it (HOUSE 0: 1, or 0 without ENTRIES)");
        CHECK.due("one entry", Check.told("qa1;").measure(0, 2), 1);
        CHECK.due("six entries", Check.told("qa1b2c3d4e5f6;").measure(0, 2), 1);
        CHECK.due("none", Check.told("q;").measure(0, 2), 0);
        CHECK.due("none, another has", Check.told("q;qa1;").measure(0, 2), 0);
        YearLines x = Check.told("qa1b2;");
        x.strikes(0, 0);
        CHECK.due("one struck", x.measure(0, 2), 1);
        x.strikes(0, 1);
        CHECK.due("both struck", x.measure(0, 2), 0);
        CHECK.due("another house, asked first", Check.told("qa1b2;qa1b3;").measure(1, 2), 2);
    }

    private static void ranksOfLikeHouses() {
        CHECK.about("RANK: HOUSES, the most first, of like ones the lower first");
        for (int by = 0; by < 5; by++) {
            YearLines x = Check.told("q;q;q;q;");
            for (int k = 0; k < 5; k++) {
                CHECK.due("rank(" + by + ", " + k + ")", x.rank(by, k), k < 4 ? k : YearLines.NONE);
            }
        }
        YearLines x = Check.told("qa1;qa1b2;qa1;qa1b2;");
        int[] due = {1, 3, 0, 2, YearLines.NONE, YearLines.NONE};
        for (int k = 0; k < due.length; k++) {
            CHECK.due("rank(0, " + k + ")", x.rank(0, k), due[k]);
        }
        CHECK.due("one house", Check.told("qa1;").rank(0, 0), 0);
        CHECK.due("one house, the second", Check.told("qa1;").rank(0, 1), YearLines.NONE);
        CHECK.due("no houses", new YearLines().rank(0, 0), YearLines.NONE);
    }

    private static void seenFromNoneToSix() {
        CHECK.about("SEEN (6 at most); FULL: 6; Nothing is SEEN: how much was");
        for (int n = 0; n <= 8; n++) {
            YearLines x = Check.told("qa1b2;");
            for (int i = 1; i <= n; i++) {
                CHECK.due("the " + i + "th", x.sees(i % 9), i <= 6 ? i : YearLines.FULL);
            }
            CHECK.due("seen", x.count(5), Math.min(n, 6));
            CHECK.due("forget()", x.forget(), Math.min(n, 6));
            CHECK.due("seen then", x.count(5), 0);
            CHECK.due("forget() again", x.forget(), 0);
            CHECK.due("sees() again", x.sees(0), 1);
        }
    }

    private static void unseen(YearLines x, int size, int first) {
        CHECK.due("unseen(0)", x.unseen(0), size);
        CHECK.due("unseen(1)", x.unseen(1), first);
    }

    private static void seenNoneToEightKnots() {
        CHECK.about("SEEN: one unknown ENTRY being STRUCK, there would be n KNOTS (n 0 .. 8)");
        YearLines all = orders("abcdef", "fedcba", "gh", "hg");
        CHECK.due("knots", all.count(3), 8);
        // Without a or f of one house that event is no knot any more, without g or h neither of the two is.
        int[] sizes = {0, 0, 0, 0, 0, 0, 4, 4, 8};
        int[] firsts = {YearLines.NONE, YearLines.NONE, YearLines.NONE, YearLines.NONE, YearLines.NONE, YearLines.NONE,
            20, 0, 1};
        for (int n = 0; n <= 8; n++) {
            all.forget();
            all.sees(n);
            unseen(all, sizes[n], firsts[n]);
        }
        YearLines none = orders("abc", "bc");
        none.sees(0);
        unseen(none, 5, 0);
        none.sees(0);
        unseen(none, 5, 0);
        none.sees(1);
        unseen(none, 0, YearLines.NONE);
    }

    private static void unseenFirst() {
        CHECK.about("UNSEEN: the first (10 times the HOUSE, and its number); NONE");
        YearLines x = Check.told("qa1b2c3d4e5f6;qa1b2c3d4e5f6;qa1b2c3d4e5f6;qa1b2c3d4e5f6;");
        int left = 24;
        for (int house = 0; house < 4; house++) {
            for (int k = 0; k < 6; k++) {
                unseen(x, left, 10 * house + k);
                x.strikes(house, k);
                left--;
            }
        }
        unseen(x, 0, YearLines.NONE);
        x.strikes(3, 5);
        unseen(x, 1, 35);
        unseen(new YearLines(), 0, YearLines.NONE);
    }

    private static void struckIsNotUnseen() {
        CHECK.about("SEEN: one unknown ENTRY (that is not STRUCK)");
        YearLines x = orders("ab", "ba");
        x.sees(0);
        unseen(x, 4, 0);
        x.strikes(0, 0);
        unseen(x, 3, 1);
        x.strikes(0, 1);
        unseen(x, 2, 10);
        x.undo();
        x.undo();
        unseen(x, 4, 0);
        CHECK.due("nothing is changed", x.count(1), 4);
    }

    private static void imagesKeepThreeThings() {
        CHECK.about("IMAGES 0, 1 keep YEARS, what is STRUCK, SLACK; nothing else");
        for (int image = 0; image < 2; image++) {
            YearLines x = Check.told("s4;qa1b2c3d4e5f6;q;q;qa1b2c3d4e5f6;");
            x.strikes(0, 0);
            x.strikes(3, 5);
            CHECK.due("keep", x.keep(image), 4);
            x.strikes(0, 0);
            x.strikes(3, 5);
            x.tells(0, 5, 99);
            x.tells(3, 0, 0);
            x.slacks(9);
            x.sees(3);
            x.type('q');
            CHECK.due("the other one", x.back(1 - image), YearLines.STATE);
            CHECK.due("the other one changes nothing", x.count(7), 7);
            CHECK.due("back", x.back(image), 4);
            CHECK.due("struck, the first", x.entry(0, 0, 2), 1);
            CHECK.due("struck, the last", x.entry(3, 5, 2), 1);
            CHECK.due("year, the last of 0", x.entry(0, 5, 1), 6);
            CHECK.due("year, the first of 3", x.entry(3, 0, 1), 1);
            CHECK.due("slack", x.count(4), 4);
            CHECK.due("seen is not of it", x.count(5), 1);
            CHECK.due("the text is not of it", x.count(6), 1);
            CHECK.due("it is kept still", x.back(image), 4);
        }
    }

    private static void bothImagesKept() {
        CHECK.about("IMAGES 0, 1");
        YearLines x = Check.told("qa1;q;");
        for (int image : new int[] {0, 1, 0}) {
            x.slacks(image + 3);
            CHECK.due("keep(" + image + ")", x.keep(image), 2);
        }
        x.slacks(9);
        CHECK.due("back(0)", x.back(0), 2);
        CHECK.due("slack", x.count(4), 3);
        CHECK.due("back(1)", x.back(1), 2);
        CHECK.due("slack", x.count(4), 4);
        CHECK.due("back(0) again", x.back(0), 2);
        CHECK.due("slack", x.count(4), 3);
    }

    private static void nothingUndoneBehindBack() {
        CHECK.about("nothing can be UNDONE behind back()");
        YearLines x = Check.told("qa1b2;");
        x.slacks(1);
        x.keep(0);
        CHECK.due("keep() leaves what may be undone", x.count(7), 1);
        x.slacks(2);
        x.back(0);
        CHECK.due("may be undone", x.count(7), 0);
        CHECK.due("undo()", x.undo(), YearLines.STATE);
        CHECK.due("slack", x.count(4), 1);
        x.slacks(7);
        CHECK.due("what comes behind it may be", x.undo(), 0);
        CHECK.due("slack", x.count(4), 1);
    }
}
