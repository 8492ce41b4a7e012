/** Promises 10 to 13: span, shift, measure, rank. */
public final class TwoHousesTest {
    private static final Check CHECK = new Check("TwoHousesTest");

    public static void main(String[] args) {
        spansWithoutSlack();
        spansWithSlack();
        leastOffsetIsTheSpans();
        commonInTheFirstsOrder();
        noCommon();
        badSpans();
        shiftOfMost();
        shiftOfLikeOnes();
        shiftOfSixCommon();
        shiftOfHouseZero();
        badShifts();
        measures();
        ranks();
        badRanks();
        CHECK.finish();
    }

    private static void span(YearLines x, int p, int q, int k, int first, int last, int size, int offset) {
        String call = "span(" + p + ", " + q + ", " + k + ", ";
        CHECK.due(call + "0)", x.span(p, q, k, 0), first);
        CHECK.due(call + "1)", x.span(p, q, k, 1), last);
        CHECK.due(call + "2)", x.span(p, q, k, 2), size);
        CHECK.due(call + "3)", x.span(p, q, k, 3), offset);
    }

    private static void spansWithoutSlack() {
        YearLines x = Check.told("qa10b20c30d40;qa11b21c32d41;");
        CHECK.due("spans", x.span(0, 1, -1, 0), 3);
        span(x, 0, 1, 0, 0, 1, 2, 1);
        span(x, 0, 1, 1, 2, 2, 1, 2);
        span(x, 0, 1, 2, 3, 3, 1, 1);
        CHECK.due("the other way", x.span(1, 0, -1, 0), 3);
        span(x, 1, 0, 0, 0, 1, 2, -1);
        x.slacks(1);
        CHECK.due("with slack", x.span(0, 1, -1, 0), 1);
        span(x, 0, 1, 0, 0, 3, 4, 1);
        span(x, 1, 0, 0, 0, 3, 4, -2);
    }

    private static void spansWithSlack() {
        YearLines x = Check.told("s3;qa10b20c30d40e50f60;qa10b22c33d44e55f60;");
        CHECK.due("spans", x.span(0, 1, -1, 0), 3);
        span(x, 0, 1, 0, 0, 2, 3, 0);
        span(x, 0, 1, 1, 3, 4, 2, 4);
        span(x, 0, 1, 2, 5, 5, 1, 0);
        x.strikes(1, 2);
        span(x, 0, 1, 0, 0, 1, 2, 0);
        x.strikes(0, 0);
        span(x, 0, 1, 0, 1, 4, 3, 2);
        CHECK.due("spans", x.span(0, 1, -1, 0), 2);
    }

    private static void leastOffsetIsTheSpans() {
        YearLines x = Check.told("s4;qa10b20c30;qa14b21c33;");
        CHECK.due("spans", x.span(0, 1, -1, 0), 1);
        span(x, 0, 1, 0, 0, 2, 3, 1);
    }

    private static void commonInTheFirstsOrder() {
        YearLines x = Check.told("qa1b2c3;qc1b2a3;");
        span(x, 0, 1, 0, 0, 0, 1, 2);
        span(x, 0, 1, 1, 1, 1, 1, 0);
        span(x, 0, 1, 2, 2, 2, 1, -2);
        span(x, 1, 0, 0, 2, 2, 1, 2);
        span(x, 1, 0, 2, 0, 0, 1, -2);
    }

    private static void noCommon() {
        YearLines x = Check.told("qa1;qb2;q;");
        CHECK.due("none common", x.span(0, 1, -1, 0), 0);
        CHECK.due("no entries", x.span(0, 2, -1, 0), 0);
        CHECK.due("first of none", x.span(0, 1, 0, 0), YearLines.NO);
    }

    private static void badSpans() {
        YearLines x = Check.told("qa1b9;qa2b9;");
        CHECK.due("spans, any what", x.span(0, 1, -1, 77), 2);
        CHECK.due("spans, what below 0", x.span(0, 1, -1, -5), 2);
        int[][] bad = {{0, 0, -1, 0}, {1, 1, 0, 0}, {2, 0, 0, 0}, {0, 2, 0, 0}, {-1, 0, 0, 0}, {0, -1, -1, 0},
                {0, 1, -2, 0}, {0, 1, 0, -1}, {0, 1, 0, 4}, {0, 1, 2, 0}, {0, 1, 2, 3}, {0, 4, 0, 0},
                {0, 1, Integer.MAX_VALUE, 0}, {0, 1, Integer.MIN_VALUE, 0}, {Integer.MAX_VALUE, 1, 0, 0}};
        for (int[] b : bad) {
            CHECK.due("span(" + b[0] + ", " + b[1] + ", " + b[2] + ", " + b[3] + ")",
                    x.span(b[0], b[1], b[2], b[3]), YearLines.NO);
        }
    }

    private static void shift(YearLines x, int house, int shift, String agreed, String against) {
        CHECK.due("shift(" + house + ", 0)", x.shift(house, 0), shift);
        CHECK.due("shift(" + house + ", 1)", x.shift(house, 1), Check.bits(agreed));
        CHECK.due("shift(" + house + ", 2)", x.shift(house, 2), Check.bits(against));
    }

    private static void shiftOfMost() {
        YearLines x = Check.told("qa10b20c30d40;qa10b27c37g40d41;");
        shift(x, 1, 7, "bc", "ad");
        x.strikes(1, 1);
        shift(x, 1, 0, "a", "cd");
        x.strikes(0, 0);
        shift(x, 1, 1, "d", "c");
    }

    private static void shiftOfLikeOnes() {
        shift(Check.told("qa10b20;qa15b18;"), 1, -2, "b", "a");
        shift(Check.told("qa10b20;qa13b17;"), 1, -3, "b", "a");
        shift(Check.told("qa10b20;qa7b23;"), 1, -3, "a", "b");
        shift(Check.told("qa10b20c30d40;qa12b22c28d38;"), 1, -2, "cd", "ab");
        shift(Check.told("qa10b20c30;qa9b25c35;"), 1, 5, "bc", "a");
        shift(Check.told("qa0b99;qb0a99;"), 1, -99, "b", "a");
        shift(Check.told("s9;qa10b20c30;qa11b22c32;"), 1, 2, "bc", "a");
    }

    private static void shiftOfSixCommon() {
        YearLines x = Check.told("q;qa10b20c30d40e50f60;qa11b22c33d44e53f62;");
        shift(x, 1, 0, "", "");
        YearLines y = Check.told("qa10b20c30d40e50f60;qa11b22c33d44e53f62;");
        shift(y, 1, 2, "bf", "acde");
        CHECK.due("spans of six", y.span(0, 1, -1, 0), 6);
        span(y, 0, 1, 5, 5, 5, 1, 2);
        CHECK.due("the seventh", y.span(0, 1, 6, 0), YearLines.NO);
    }

    private static void shiftOfHouseZero() {
        YearLines x = Check.told("qa10c20h20;qb1;q;");
        shift(x, 0, 0, "ach", "");
        shift(x, 1, 0, "", "");
        shift(x, 2, 0, "", "");
        x.strikes(0, 1);
        shift(x, 0, 0, "ah", "");
    }

    private static void badShifts() {
        YearLines x = Check.told("qa1;qa2;");
        int[][] bad = {{-1, 0}, {2, 0}, {0, -1}, {0, 3}, {1, 3}, {4, 1}, {Integer.MAX_VALUE, 0}, {0, Integer.MIN_VALUE}};
        for (int[] b : bad) {
            CHECK.due("shift(" + b[0] + ", " + b[1] + ")", x.shift(b[0], b[1]), YearLines.NO);
        }
    }

    private static void measured(YearLines x, int house, int... due) {
        for (int by = 0; by < due.length; by++) {
            CHECK.due("measure(" + house + ", " + by + ")", x.measure(house, by), due[by]);
        }
    }

    private static void measures() {
        YearLines x = Check.told("qa10b20c30d40;qa12b22c33f50;qc1b2g3;q;");
        measured(x, 0, 4, 4, 1, 1, 2);
        measured(x, 1, 4, 2, 2, 1, 2);
        measured(x, 2, 3, 1, 2, 1, 2);
        measured(x, 3, 0, 0, 0, 0, 0);
        x.slacks(1);
        measured(x, 1, 4, 2, 1);
        x.strikes(1, 0);
        measured(x, 1, 3, 1, 1, 1, 2);
        measured(x, 0, 4, 4, 1, 2, 2);
        x.strikes(2, 0);
        measured(x, 0, 4, 4, 1, 2, 0);
        int[][] bad = {{-1, 0}, {4, 0}, {0, -1}, {0, 5}, {Integer.MAX_VALUE, 0}, {0, Integer.MAX_VALUE}};
        for (int[] b : bad) {
            CHECK.due("measure(" + b[0] + ", " + b[1] + ")", x.measure(b[0], b[1]), YearLines.BAD);
        }
        CHECK.due("measure without houses", new YearLines().measure(0, 0), YearLines.BAD);
    }

    private static void ranked(YearLines x, int by, int... due) {
        for (int k = 0; k < due.length; k++) {
            CHECK.due("rank(" + by + ", " + k + ")", x.rank(by, k), due[k]);
        }
        CHECK.due("rank(" + by + ", " + due.length + ")", x.rank(by, due.length), YearLines.NONE);
    }

    private static void ranks() {
        YearLines x = Check.told("qa10b20c30d40;qa12b22c33f50;qc1b2g3e4h4;q;");
        ranked(x, 0, 2, 0, 1, 3);
        ranked(x, 1, 0, 1, 2, 3);
        ranked(x, 2, 1, 2, 0, 3);
        ranked(x, 3, 2, 0, 1, 3);
        ranked(x, 4, 0, 1, 2, 3);
        x.strikes(0, 0);
        ranked(x, 0, 2, 1, 0, 3);
        ranked(x, 3, 2, 1, 0, 3);
        ranked(Check.told("q;q;q;q;"), 0, 0, 1, 2, 3);
        ranked(new YearLines(), 3);
    }

    private static void badRanks() {
        YearLines x = Check.told("qa1;");
        CHECK.due("rank(-1, 0)", x.rank(-1, 0), YearLines.BAD);
        CHECK.due("rank(5, 0)", x.rank(5, 0), YearLines.BAD);
        CHECK.due("rank(0, -1)", x.rank(0, -1), YearLines.BAD);
        CHECK.due("rank(5, 9)", x.rank(5, 9), YearLines.BAD);
        CHECK.due("rank(0, min)", x.rank(0, Integer.MIN_VALUE), YearLines.BAD);
        CHECK.due("rank(0, 1)", x.rank(0, 1), YearLines.NONE);
        CHECK.due("rank(0, max)", x.rank(0, Integer.MAX_VALUE), YearLines.NONE);
    }
}
