/** What may be asked without changing anything, each call with every argument that is allowed. */
final class Looks {
    private Looks() { }

    /** All but the numbers of entries: two objects must answer alike, though one has entries struck. Some 290 calls. */
    static void same(Check check, String label, YearLines x, YearLines y) {
        for (int what : new int[] {0, 1, 2, 3, 4, 5, 6}) {
            check.due(label + ": count(" + what + ")", x.count(what), y.count(what));
        }
        pairs(check, label, x, y);
        houses(check, label, x, y);
        for (int e = 0; e < 8; e++) {
            for (int what = 0; what < 4; what++) {
                check.due(label + ": event(" + e + ", " + what + ")", x.event(e, what), y.event(e, what));
            }
            check.due(label + ": date(" + e + ")", x.date(e), y.date(e));
            check.due(label + ": line(" + e + ")", x.line(e), y.line(e));
            check.due(label + ": late(" + e + ", 0)", x.late(e, 0), y.late(e, 0));
            check.due(label + ": late(1, " + e + ")", x.late(1, e), y.late(1, e));
        }
        check.due(label + ": without()", x.without(), y.without());
        check.due(label + ": unseen(0)", x.unseen(0), y.unseen(0));
    }

    private static void pairs(Check check, String label, YearLines x, YearLines y) {
        for (int pair = 0; pair < 16; pair++) {
            int p = pair / 4;
            int q = pair % 4;
            int spans = y.span(p, q, -1, 0);
            check.due(label + ": span(" + p + ", " + q + ", -1, 0)", x.span(p, q, -1, 0), spans);
            for (int k = 0; k < spans; k++) {
                for (int what = 0; what < 4; what++) {
                    check.due(label + ": span(" + p + ", " + q + ", " + k + ", " + what + ")",
                            x.span(p, q, k, what), y.span(p, q, k, what));
                }
            }
        }
    }

    private static void houses(Check check, String label, YearLines x, YearLines y) {
        for (int house = 0; house < 4; house++) {
            for (int what = 0; what < 3; what++) {
                check.due(label + ": shift(" + house + ", " + what + ")", x.shift(house, what), y.shift(house, what));
            }
            for (int by = 0; by < 5; by++) {
                check.due(label + ": measure(" + house + ", " + by + ")", x.measure(house, by), y.measure(house, by));
                check.due(label + ": rank(" + by + ", " + house + ")", x.rank(by, house), y.rank(by, house));
            }
        }
    }

    /** Every entry, for two objects that have the same ones. 72 calls. */
    static void sameEntries(Check check, String label, YearLines x, YearLines y) {
        for (int house = 0; house < 4; house++) {
            for (int k = 0; k < 6; k++) {
                for (int what = 0; what < 3; what++) {
                    check.due(label + ": entry(" + house + ", " + k + ", " + what + ")", x.entry(house, k, what),
                            y.entry(house, k, what));
                }
            }
        }
    }
}
