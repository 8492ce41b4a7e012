/** Promises 14 to 18: event, date, late, line, without. */
public final class EventsTest {
    private static final Check CHECK = new Check("EventsTest");

    public static void main(String[] args) {
        aheadAndChains();
        knots();
        likeYearsAreNotAhead();
        badEvents();
        dates();
        lates();
        lines();
        linesWithKnots();
        withouts();
        CHECK.finish();
    }

    private static void event(YearLines x, char e, int houses, String ahead, String chains, int knot) {
        int number = e - 'a';
        CHECK.due("event(" + e + ", 0)", x.event(number, 0), houses);
        CHECK.due("event(" + e + ", 1)", x.event(number, 1), Check.bits(ahead));
        CHECK.due("event(" + e + ", 2)", x.event(number, 2), Check.bits(chains));
        CHECK.due("event(" + e + ", 3)", x.event(number, 3), knot);
    }

    private static void aheadAndChains() {
        YearLines x = Check.told("qg1f2;qf1d2;qd1b2;qb1a2h3;");
        event(x, 'g', 1, "f", "fdbah", 0);
        event(x, 'f', 3, "d", "dbah", 0);
        event(x, 'd', 6, "b", "bah", 0);
        event(x, 'b', 12, "ah", "ah", 0);
        event(x, 'a', 8, "h", "h", 0);
        event(x, 'h', 8, "", "", 0);
        event(x, 'c', 0, "", "", 0);
        x.strikes(1, 0);
        event(x, 'g', 1, "f", "f", 0);
        event(x, 'f', 1, "", "", 0);
    }

    private static void knots() {
        YearLines x = Check.told("qa1b2;qb1c2;qc1a2d3;");
        event(x, 'a', 5, "bd", "abcd", 1);
        event(x, 'b', 3, "c", "abcd", 1);
        event(x, 'c', 6, "ad", "abcd", 1);
        event(x, 'd', 4, "", "", 0);
        CHECK.due("knots", x.count(3), 3);
        x.tells(2, 0, 2);
        CHECK.due("knots, c and a in one year", x.count(3), 0);
        event(x, 'a', 5, "bd", "bcd", 0);
        YearLines y = Check.told("qh1a2b3;qb1a2;");
        event(y, 'h', 1, "ab", "ab", 0);
        CHECK.due("knots", y.count(3), 2);
    }

    private static void likeYearsAreNotAhead() {
        YearLines x = Check.told("qa5b5c6;qb1a1;");
        event(x, 'a', 3, "c", "c", 0);
        event(x, 'b', 3, "c", "c", 0);
    }

    private static void badEvents() {
        YearLines x = Check.told("qa1b2;");
        int[][] bad = {{-1, 0}, {8, 0}, {0, -1}, {0, 4}, {8, 4}, {Integer.MAX_VALUE, 0}, {0, Integer.MIN_VALUE}};
        for (int[] b : bad) {
            CHECK.due("event(" + b[0] + ", " + b[1] + ")", x.event(b[0], b[1]), YearLines.BAD);
        }
    }

    private static void dates() {
        YearLines x = Check.told("qa10b20;qa13b23c30d30;qd1c2e3f4;q;");
        CHECK.due("a", x.date(0), 10);
        CHECK.due("b", x.date(1), 20);
        CHECK.due("c, by house 1", x.date(2), 27);
        CHECK.due("e, by house 2, without shift", x.date(4), 3);
        CHECK.due("g", x.date(6), YearLines.NO);
        x.strikes(0, 0);
        CHECK.due("a, struck in house 0", x.date(0), 10);
        x.strikes(0, 1);
        CHECK.due("a, nothing common", x.date(0), 13);
        for (int e : new int[] {-1, 8, Integer.MAX_VALUE, Integer.MIN_VALUE}) {
            CHECK.due("date(" + e + ")", x.date(e), YearLines.NO);
        }
        YearLines y = Check.told("qa10b20c30h50;qa13b23c39g40;");
        CHECK.due("in the lowest house alone", y.date(7), 50);
        CHECK.due("against the shift, by the lowest house", y.date(2), 30);
        CHECK.due("by the shift that most speak for", y.date(6), 37);
        CHECK.due("below 0", Check.told("qa0;qb0a9;").date(1), -9);
        CHECK.due("far", Check.told("qa99;qa0b99;").date(1), 198);
    }

    private static void lates() {
        YearLines x = Check.told("qa10b20;qa13b23c30;");
        CHECK.due("b behind a", x.late(1, 0), 10);
        CHECK.due("a ahead of b", x.late(0, 1), -10);
        CHECK.due("c behind b", x.late(2, 1), 7);
        CHECK.due("a and a", x.late(0, 0), 0);
        int[][] none = {{0, 3}, {3, 0}, {3, 3}, {0, 8}, {8, 0}, {-1, 0}, {0, -1}, {Integer.MAX_VALUE, 0}};
        for (int[] n : none) {
            CHECK.due("late(" + n[0] + ", " + n[1] + ")", x.late(n[0], n[1]), YearLines.NO);
        }
    }

    private static void line(YearLines x, String due) {
        for (int k = 0; k < due.length(); k++) {
            CHECK.due("line(" + k + ")", x.line(k), due.charAt(k) - 'a');
        }
        CHECK.due("line(" + due.length() + ")", x.line(due.length()), YearLines.NONE);
        CHECK.due("line(max)", x.line(Integer.MAX_VALUE), YearLines.NONE);
        CHECK.due("line(-1)", x.line(-1), YearLines.BAD);
        CHECK.due("line(min)", x.line(Integer.MIN_VALUE), YearLines.BAD);
    }

    private static void lines() {
        line(new YearLines(), "");
        line(Check.told("qh1g2f3;qc5b6a7;"), "cbahgf");
        line(Check.told("qd1a2;qe1a2;qc1b2;"), "cbdea");
        line(Check.told("qc5b5a5;"), "abc");
        line(Check.told("qc1a2b3;"), "cab");
        line(Check.told("qa1b2c3;qb1d2;qd1c2;qe1f2g3h4a5;"), "efghabdc");
        line(Check.told("qa1b2c3d4e5f6;qf1g2h3;"), "abcdefgh");
        YearLines x = Check.told("qb1a2;qb9d9;");
        line(x, "bad");
        x.strikes(0, 0);
        line(x, "abd");
        x.strikes(1, 1);
        line(x, "ab");
    }

    private static void linesWithKnots() {
        YearLines x = Check.told("qa1b2;qb1a2;qc1d2;");
        for (int k = 0; k < 5; k++) {
            CHECK.due("line(" + k + ") with knots", x.line(k), YearLines.NONE);
        }
        CHECK.due("line(-1) with knots", x.line(-1), YearLines.BAD);
        x.strikes(1, 0);
        line(x, "abcd");
    }

    private static void withouts() {
        CHECK.due("no houses", new YearLines().without(), 0);
        CHECK.due("no knots", Check.told("qa1b2;qa1b2;").without(), 0);
        CHECK.due("either", Check.told("qa1b2;qb1a2;").without(), 1);
        CHECK.due("one of three", Check.told("qa1b2;qb1c2;qc1a2;").without(), 1);
        CHECK.due("the one", Check.told("qa1b2;qa1b2;qb1a2;").without(), 4);
        CHECK.due("two by two", Check.told("qa1b2;qb1a2;qa3b4;qb5a6;").without(), 5);
        CHECK.due("two, not the least number alone", Check.told("qa1b2;qb1a2;qc3d4;qd5c6;").without(), 5);
        CHECK.due("one is fewer than two", Check.told("qa1b2;qc1d2;q;qb1a2d3c4;").without(), 8);
        CHECK.due("three by one", Check.told("qa1b2c3;qb1a2;qc1b2;qc1a2;").without(), 1);
        YearLines x = Check.told("qa1b2;qb1a2;");
        x.strikes(1, 1);
        CHECK.due("struck", x.without(), 0);
        CHECK.due("nothing is changed", x.count(0), 2);
    }
}
