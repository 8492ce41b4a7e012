import java.util.function.IntUnaryOperator;

/** Promises 5 to 24: the last value that is allowed and the first that is not, on both sides of each argument. */
public final class EdgesOfCallsTest {
    private static final Check CHECK = new Check("EdgesOfCallsTest");
    private static final String FULL_HOUSES =
            "s4;qa10b20c30d40e50f60;qa11b22c33d44e55f66;qc5d15e25f35g45h55;qh0g10f20e30d40c50;";

    public static void main(String[] args) {
        newObject();
        entries();
        strikes();
        tells();
        slacks();
        undo();
        spans();
        spanCount();
        shifts();
        measures();
        ranks();
        events();
        dates();
        lates();
        lines();
        withoutHouses();
        sees();
        unseen();
        images();
        counts();
        fiveHundredAndTwelveCalls();
        fullTextAndManyCalls();
        CHECK.finish();
    }

    private static YearLines full() {
        return Check.told(FULL_HOUSES);
    }

    /** From and to are the first and the last that are allowed; what lies beyond, near and far, is refused. */
    private static void argument(String call, int from, int to, int refusal, IntUnaryOperator asked) {
        for (int n = from; n <= to; n++) {
            CHECK.due(call + " of " + n + " is refused", asked.applyAsInt(n) == refusal ? 1 : 0, 0);
        }
        int[] beyond = {from - 1, from - 2, to + 1, to + 2, from - 256, to + 256, from - 65536, to + 65536,
            Integer.MIN_VALUE, Integer.MIN_VALUE + 1, Integer.MIN_VALUE + to, Integer.MAX_VALUE, Integer.MAX_VALUE - 1};
        for (int n : beyond) {
            CHECK.due(call + " of " + n, asked.applyAsInt(n), refusal);
        }
    }

    private static void newObject() {
        CHECK.about("Promise 1: No HOUSES");
        YearLines x = new YearLines();
        for (int what = 0; what <= 7; what++) {
            CHECK.due("count(" + what + ")", x.count(what), 0);
        }
        CHECK.due("entry", x.entry(0, 0, 0), YearLines.BAD);
        CHECK.due("strikes", x.strikes(0, 0), YearLines.BAD);
        CHECK.due("tells", x.tells(0, 0, 0), YearLines.BAD);
        CHECK.due("undo", x.undo(), YearLines.STATE);
        CHECK.due("span", x.span(0, 1, -1, 0), YearLines.NO);
        CHECK.due("shift", x.shift(0, 0), YearLines.NO);
        CHECK.due("measure", x.measure(0, 0), YearLines.BAD);
        CHECK.due("rank", x.rank(0, 0), YearLines.NONE);
        CHECK.due("line", x.line(0), YearLines.NONE);
        CHECK.due("without", x.without(), 0);
        CHECK.due("forget", x.forget(), 0);
        CHECK.due("unseen", x.unseen(0), 0);
        CHECK.due("the first unseen", x.unseen(1), YearLines.NONE);
        CHECK.due("clear", x.clear(), 0);
        CHECK.due("back", x.back(1), YearLines.STATE);
        CHECK.due("keep", x.keep(1), 0);
        CHECK.due("back", x.back(1), 0);
        for (int e = 0; e < 8; e++) {
            CHECK.due("date", x.date(e), YearLines.NO);
            CHECK.due("late", x.late(e, e), YearLines.NO);
            CHECK.due("event", x.event(e, 0), 0);
        }
    }

    private static void entries() {
        CHECK.about("Promise 5: Of an ENTRY: 0 its EVENT, 1 its YEAR, 2 whether it is STRUCK (1, 0). BAD");
        YearLines x = full();
        argument("entry, house", 0, 3, YearLines.BAD, n -> x.entry(n, 5, 0));
        argument("entry, k", 0, 5, YearLines.BAD, n -> x.entry(3, n, 1));
        argument("entry, what", 0, 2, YearLines.BAD, n -> x.entry(3, 5, n));
        CHECK.due("the first", x.entry(0, 0, 1), 10);
        CHECK.due("the last", x.entry(3, 5, 1), 50);
        YearLines few = Check.told("qa1b2;q;qc3;");
        CHECK.due("the last house of three", few.entry(2, 0, 0), 2);
        CHECK.due("a fourth", few.entry(3, 0, 0), YearLines.BAD);
        argument("entry, k of two", 0, 1, YearLines.BAD, n -> few.entry(0, n, 0));
        argument("entry, k of one", 0, 0, YearLines.BAD, n -> few.entry(2, n, 0));
        for (int k = -1; k <= 6; k++) {
            CHECK.due("entry(1, " + k + ", 0) of none", few.entry(1, k, 0), YearLines.BAD);
        }
    }

    private static void strikes() {
        CHECK.about("Promise 6: STRUCK (1), or not (0) then. BAD");
        YearLines x = full();
        argument("strikes, house", 0, 3, YearLines.BAD, n -> x.strikes(n, 5));
        argument("strikes, k", 0, 5, YearLines.BAD, n -> x.strikes(3, n));
        YearLines y = full();
        for (int place = 0; place < 24; place++) {
            CHECK.due("struck", y.strikes(place / 6, place % 6), 1);
            CHECK.due("entries left", y.count(1), 23 - place);
        }
        for (int place = 0; place < 24; place++) {
            CHECK.due("not any more", y.strikes(place / 6, place % 6), 0);
            CHECK.due("entries left", y.count(1), place + 1);
        }
        YearLines none = Check.told("q;");
        CHECK.due("a house without entries", none.strikes(0, 0), YearLines.BAD);
    }

    private static void tells() {
        CHECK.about("Promise 7: TOLD: what it was. BAD (0 .. 99); STATE: it is that");
        YearLines x = Check.told("qa50;qa50;qa50;qa50;");
        argument("tells, house", 0, 3, YearLines.BAD, n -> x.tells(n, 0, 51));
        argument("tells, k", 0, 0, YearLines.BAD, n -> x.tells(3, n, 52));
        argument("tells, year", 0, 99, YearLines.BAD, n -> x.tells(3, 0, n));
        YearLines six = full();
        argument("tells, k of six", 0, 5, YearLines.BAD, n -> six.tells(3, n, 99));
        YearLines y = Check.told("qa0;");
        CHECK.due("0, it is that", y.tells(0, 0, 0), YearLines.STATE);
        CHECK.due("to 99", y.tells(0, 0, 99), 0);
        CHECK.due("99, it is that", y.tells(0, 0, 99), YearLines.STATE);
        CHECK.due("BAD comes ahead of STATE, a year above", y.tells(0, 0, 100), YearLines.BAD);
        CHECK.due("BAD comes ahead of STATE, no such house", y.tells(1, 0, 99), YearLines.BAD);
        CHECK.due("to 0", y.tells(0, 0, 0), 99);
        CHECK.due("BAD comes ahead of STATE, a year below", y.tells(0, 0, -1), YearLines.BAD);
        CHECK.due("BAD comes ahead of STATE, no such entry", y.tells(0, 1, 0), YearLines.BAD);
    }

    private static void slacks() {
        CHECK.about("Promise 8: SLACKED: what it was. BAD; STATE: it is that");
        YearLines x = new YearLines();
        argument("slacks", 0, 9, YearLines.BAD, x::slacks);
        for (int n = 0; n <= 9; n++) {
            YearLines y = Check.told("s" + n + ";");
            for (int to = 0; to <= 9; to++) {
                boolean other = to != y.count(4);
                int was = y.count(4);
                CHECK.due("slacks(" + to + ")", y.slacks(to), other ? was : YearLines.STATE);
                CHECK.due("slack", y.count(4), to);
            }
        }
    }

    private static void undo() {
        CHECK.about("Promise 9: UNDONE: how many more may be. STATE: none");
        YearLines x = Check.told("qa1;");
        CHECK.due("none", x.undo(), YearLines.STATE);
        x.slacks(3);
        CHECK.due("one", x.undo(), 0);
        CHECK.due("none more", x.undo(), YearLines.STATE);
        CHECK.due("an undo is not undone", x.count(4), 0);
        x.strikes(0, 0);
        x.strikes(0, 0);
        x.tells(0, 0, 9);
        x.slacks(1);
        for (int left = 3; left >= 0; left--) {
            CHECK.due("may be undone", x.count(7), left + 1);
            CHECK.due("undo", x.undo(), left);
        }
    }

    private static void spans() {
        CHECK.about("Promise 10: of the k-th; NO: BAD (the same HOUSE, too), there are not so many");
        YearLines x = Check.told("qa10b20c30d40e50f60;qa10b21c32d43e54f65;qa1b3;qa9;");
        argument("span, p", 1, 3, YearLines.NO, n -> x.span(n, 0, 0, 0));
        argument("span, q", 1, 3, YearLines.NO, n -> x.span(0, n, 0, 0));
        argument("span, k", -1, 5, YearLines.NO, n -> x.span(0, 1, n, 0));
        argument("span, k, offset", -1, 5, YearLines.NO, n -> x.span(0, 1, n, 3));
        argument("span, what", 0, 3, YearLines.NO, n -> x.span(0, 1, 5, n));
        for (int house = -1; house <= 4; house++) {
            for (int k = -1; k <= 1; k++) {
                CHECK.due("the same house " + house, x.span(house, house, k, 0), YearLines.NO);
            }
        }
    }

    private static void spanCount() {
        CHECK.about("Promise 10: How many SPANS (k = -1); (k = -1: what does not matter)");
        YearLines x = Check.told("qa10b20;qa10b21;");
        for (int what : new int[] {-1, 0, 3, 4, Integer.MIN_VALUE, Integer.MAX_VALUE}) {
            CHECK.due("span(0, 1, -1, " + what + ")", x.span(0, 1, -1, what), 2);
            CHECK.due("span(0, 0, -1, " + what + ")", x.span(0, 0, -1, what), YearLines.NO);
            CHECK.due("span(0, 2, -1, " + what + ")", x.span(0, 2, -1, what), YearLines.NO);
            CHECK.due("span(0, 1, -2, " + what + ")", x.span(0, 1, -2, what), YearLines.NO);
            CHECK.due("span(0, 1, 2, " + what + ")", x.span(0, 1, 2, what), YearLines.NO);
        }
        YearLines none = Check.told("qa1;qb1;");
        CHECK.due("none", none.span(0, 1, -1, 0), 0);
        CHECK.due("the first of none", none.span(0, 1, 0, 0), YearLines.NO);
    }

    private static void shifts() {
        CHECK.about("Promise 11: 0 SHIFT, 1 AGREED, 2 AGAINST. NO: BAD");
        YearLines x = full();
        argument("shift, house", 0, 3, YearLines.NO, n -> x.shift(n, 0));
        argument("shift, what", 0, 2, YearLines.NO, n -> x.shift(3, n));
        YearLines y = full();
        argument("shift of house 0, what", 0, 2, YearLines.NO, n -> y.shift(0, n));
        argument("agreed, house", 0, 3, YearLines.NO, n -> y.shift(n, 1));
        argument("against, house", 0, 3, YearLines.NO, n -> y.shift(n, 2));
        YearLines one = Check.told("q;");
        argument("shift, house of one", 0, 0, YearLines.NO, n -> one.shift(n, 0));
    }

    private static void measures() {
        CHECK.about("Promise 12: A MEASURE. BAD");
        YearLines x = full();
        for (int by = 0; by < 5; by++) {
            int measure = by;
            argument("measure " + by + ", house", 0, 3, YearLines.BAD, n -> x.measure(n, measure));
        }
        argument("measure, by", 0, 4, YearLines.BAD, n -> x.measure(3, n));
        YearLines one = Check.told("q;");
        argument("measure, house of one", 0, 0, YearLines.BAD, n -> one.measure(n, 0));
    }

    private static void ranks() {
        CHECK.about("Promise 13: The k-th of RANK by a MEASURE (0 on); NONE. BAD");
        YearLines x = full();
        argument("rank, by", 0, 4, YearLines.BAD, n -> x.rank(n, 3));
        argument("rank, by, behind the last", 0, 4, YearLines.BAD, n -> x.rank(n, 4));
        int[] due = {0, 1, 2, 3, YearLines.NONE, YearLines.NONE};
        for (int k = 0; k < due.length; k++) {
            CHECK.due("rank(0, " + k + ")", x.rank(0, k), due[k]);
        }
        for (int k : new int[] {256, 65536, Integer.MAX_VALUE - 1, Integer.MAX_VALUE}) {
            CHECK.due("rank(0, " + k + ")", x.rank(0, k), YearLines.NONE);
        }
        for (int k : new int[] {-1, -2, Integer.MIN_VALUE}) {
            CHECK.due("rank(0, " + k + ")", x.rank(0, k), YearLines.BAD);
            CHECK.due("rank(4, " + k + ")", x.rank(4, k), YearLines.BAD);
            CHECK.due("without houses: rank(0, " + k + ")", new YearLines().rank(0, k), YearLines.BAD);
        }
        CHECK.due("without houses: rank(5, 0)", new YearLines().rank(5, 0), YearLines.BAD);
        CHECK.due("without houses: rank(4, 0)", new YearLines().rank(4, 0), YearLines.NONE);
    }

    private static void events() {
        CHECK.about("Promise 14: Of an EVENT: 0 HOUSES, 1 AHEAD, 2 CHAIN, 3 KNOT. BAD");
        YearLines x = full();
        for (int what = 0; what < 4; what++) {
            int asked = what;
            argument("event, " + what, 0, 7, YearLines.BAD, n -> x.event(n, asked));
        }
        argument("event, what", 0, 3, YearLines.BAD, n -> x.event(7, n));
        CHECK.due("all four houses", Check.told("qh1;qh1;qh1;qh1;").event(7, 0), 15);
        YearLines none = new YearLines();
        argument("event of no house, what", 0, 3, YearLines.BAD, n -> none.event(0, n));
        for (int what = 0; what < 4; what++) {
            CHECK.due("event(7, " + what + ") of no house", none.event(7, what), 0);
        }
    }

    private static void dates() {
        CHECK.about("Promise 15: DATE. NO: BAD, no HOUSE has it");
        YearLines x = full();
        argument("date", 0, 7, YearLines.NO, x::date);
        YearLines y = Check.told("qa1h2;");
        for (int e = 1; e < 7; e++) {
            CHECK.due("date(" + e + ")", y.date(e), YearLines.NO);
        }
        CHECK.due("the first", y.date(0), 1);
        CHECK.due("the last", y.date(7), 2);
        y.strikes(0, 1);
        CHECK.due("struck", y.date(7), YearLines.NO);
    }

    private static void lates() {
        CHECK.about("Promise 16: LATE of e and another one. NO: BAD, no HOUSE has one of them");
        YearLines x = full();
        argument("late, e", 0, 7, YearLines.NO, n -> x.late(n, 7));
        argument("late, other", 0, 7, YearLines.NO, n -> x.late(0, n));
        YearLines y = Check.told("qa1h2;");
        CHECK.due("neither has", y.late(1, 6), YearLines.NO);
        CHECK.due("the first has not", y.late(1, 0), YearLines.NO);
        CHECK.due("the second has not", y.late(0, 1), YearLines.NO);
        CHECK.due("both have", y.late(7, 0), 1);
        CHECK.due("both have, ahead", y.late(0, 7), -1);
    }

    private static void lines() {
        CHECK.about("Promise 17: The k-th EVENT of LINE (0 on); NONE: there is no LINE, it has not so many. BAD");
        YearLines x = Check.told("qa1b2c3d4;qe1f2g3h4;");
        for (int k = 0; k < 8; k++) {
            CHECK.due("line(" + k + ")", x.line(k), k);
        }
        YearLines knots = Check.told("qa1b2;qb1a2;");
        YearLines none = new YearLines();
        for (int k : new int[] {8, 9, 256, 65536, Integer.MAX_VALUE - 1, Integer.MAX_VALUE}) {
            CHECK.due("line(" + k + ")", x.line(k), YearLines.NONE);
            CHECK.due("line(" + k + ") with knots", knots.line(k), YearLines.NONE);
            CHECK.due("line(" + k + ") of none", none.line(k), YearLines.NONE);
        }
        for (int k : new int[] {-1, -2, -9, -256, Integer.MIN_VALUE, Integer.MIN_VALUE + 1}) {
            CHECK.due("line(" + k + ")", x.line(k), YearLines.BAD);
            CHECK.due("line(" + k + ") with knots", knots.line(k), YearLines.BAD);
            CHECK.due("line(" + k + ") of none", none.line(k), YearLines.BAD);
        }
        CHECK.due("line(0) with knots", knots.line(0), YearLines.NONE);
        CHECK.due("line(0) of none", none.line(0), YearLines.NONE);
    }

    private static void withoutHouses() {
        CHECK.about("Promise 18: WITHOUT (bits)");
        CHECK.due("no houses", new YearLines().without(), 0);
        CHECK.due("the fourth alone", full().without(), 8);
    }

    private static void sees() {
        CHECK.about("Promise 19: SEEN: how much there is. BAD (n 0 .. 8); FULL: 6");
        argument("sees", 0, 8, YearLines.BAD, n -> new YearLines().sees(n));
        YearLines x = new YearLines();
        argument("sees, six or more", 0, 8, YearLines.BAD, x::sees);
        for (int n = 0; n <= 8; n++) {
            CHECK.due("sees(" + n + ") when full", x.sees(n), YearLines.FULL);
        }
        CHECK.due("seen", x.count(5), 6);
    }

    private static void unseen() {
        CHECK.about("Promise 21: UNSEEN: how many (what = 0), the first (1; NONE). BAD");
        YearLines x = full();
        argument("unseen", 0, 1, YearLines.BAD, x::unseen);
        x.sees(7);
        argument("unseen, none", 0, 1, YearLines.BAD, x::unseen);
        CHECK.due("how many", x.unseen(0), 0);
        CHECK.due("the first", x.unseen(1), YearLines.NONE);
    }

    private static void images() {
        CHECK.about("Promises 22, 23: An IMAGE is kept: HOUSES. BAD; STATE: none was kept");
        YearLines x = full();
        argument("back, none kept", 0, 1, YearLines.BAD, x::back);
        CHECK.due("back(0), none kept", x.back(0), YearLines.STATE);
        CHECK.due("back(1), none kept", x.back(1), YearLines.STATE);
        argument("keep", 0, 1, YearLines.BAD, x::keep);
        argument("back", 0, 1, YearLines.BAD, x::back);
        String[] texts = {"", "q;", "q;q;", "q;q;q;", "q;q;q;q;"};
        for (int houses = 0; houses < texts.length; houses++) {
            YearLines y = Check.told(texts[houses]);
            CHECK.due("keep(0) of " + houses, y.keep(0), houses);
            CHECK.due("back(1) of " + houses, y.back(1), YearLines.STATE);
            CHECK.due("back(0) of " + houses, y.back(0), houses);
        }
    }

    private static void counts() {
        CHECK.about("Promise 24: count 0 .. 7. BAD");
        YearLines x = full();
        argument("count", 0, 7, YearLines.BAD, x::count);
        for (int i = 0; i < 12; i++) {
            x.strikes(0, 0);
            x.sees(i % 9);
        }
        Check.type(x, "q".repeat(120));
        int[] due = {4, 24, 8, 6, 4, 6, 110, 10};
        for (int what = 0; what < due.length; what++) {
            CHECK.due("count(" + what + ")", x.count(what), due[what]);
        }
    }

    private static void fiveHundredAndTwelveCalls() {
        CHECK.about("An object is used for at most 512 calls after it has been made");
        YearLines x = new YearLines();
        for (int call = 0; call < 510; call += 2) {
            CHECK.due("call " + call, x.slacks(call / 2 % 2 == 0 ? 9 : 0), call / 2 % 2 == 0 ? 0 : 9);
            CHECK.due("call " + (call + 1), x.count(7), Math.min(10, call / 2 + 1));
        }
        CHECK.due("call 511", x.undo(), 9);
        CHECK.due("call 512", x.count(4), 0);
    }

    private static void fullTextAndManyCalls() {
        CHECK.about("An object is used for at most 512 calls after it has been made");
        YearLines x = new YearLines();
        int calls = 0;
        for (int text = 0; text < 4; text++) {
            for (int i = 1; i <= 110; i++) {
                CHECK.due("letter " + i, x.type(i == 109 ? 'q' : i == 110 ? ';' : ' '), i);
            }
            CHECK.due("houses()", x.houses(), 1);
            calls += 111;
        }
        for (; calls < 512; calls++) {
            CHECK.due("call " + calls, x.count(0), 1);
        }
    }
}
