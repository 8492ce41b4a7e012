/** Every call by its number, asked of the class or of the model, with the values that its arguments may have. */
final class Calls {
    static final String[] NAMES = {"type", "clear", "houses", "entry", "strikes", "tells", "slacks", "undo", "span",
        "shift", "measure", "rank", "event", "date", "late", "line", "without", "sees", "forget", "unseen", "keep",
        "back", "count"};
    /** For each call, for each argument, the first and the last value that may be there. */
    static final int[][][] RANGES = {{{0, 255}}, {}, {}, {{0, 3}, {0, 5}, {0, 2}}, {{0, 3}, {0, 5}},
        {{0, 3}, {0, 5}, {0, 99}}, {{0, 9}}, {}, {{0, 3}, {0, 3}, {-1, 5}, {0, 3}}, {{0, 3}, {0, 2}},
        {{0, 3}, {0, 4}}, {{0, 4}, {0, 3}}, {{0, 7}, {0, 3}}, {{0, 7}}, {{0, 7}, {0, 7}}, {{0, 7}}, {}, {{0, 8}}, {},
        {{0, 1}}, {{0, 1}}, {{0, 1}}, {{0, 7}}};
    static final int TYPE = 0, CLEAR = 1, HOUSES = 2, STRIKES = 4, TELLS = 5, SLACKS = 6, UNDO = 7, SEES = 17,
            FORGET = 18, KEEP = 20, BACK = 21;

    private Calls() { }

    static String words(int call, int[] a) {
        StringBuilder b = new StringBuilder(NAMES[call]).append('(');
        for (int i = 0; i < a.length; i++) {
            b.append(i == 0 ? "" : ", ").append(a[i]);
        }
        return b.append(')').toString();
    }

    static int ask(YearLines x, int call, int... a) {
        return switch (call) {
            case 0 -> x.type(a[0]);
            case 1 -> x.clear();
            case 2 -> x.houses();
            case 3 -> x.entry(a[0], a[1], a[2]);
            case 4 -> x.strikes(a[0], a[1]);
            case 5 -> x.tells(a[0], a[1], a[2]);
            case 6 -> x.slacks(a[0]);
            case 7 -> x.undo();
            case 8 -> x.span(a[0], a[1], a[2], a[3]);
            case 9 -> x.shift(a[0], a[1]);
            case 10 -> x.measure(a[0], a[1]);
            case 11 -> x.rank(a[0], a[1]);
            case 12 -> x.event(a[0], a[1]);
            case 13 -> x.date(a[0]);
            case 14 -> x.late(a[0], a[1]);
            case 15 -> x.line(a[0]);
            case 16 -> x.without();
            case 17 -> x.sees(a[0]);
            case 18 -> x.forget();
            case 19 -> x.unseen(a[0]);
            case 20 -> x.keep(a[0]);
            case 21 -> x.back(a[0]);
            case 22 -> x.count(a[0]);
            default -> throw new IllegalArgumentException("no call " + call);
        };
    }

    static int ask(Model m, int call, int... a) {
        return switch (call) {
            case 0 -> m.type(a[0]);
            case 1 -> m.clear();
            case 2 -> m.houses();
            case 3 -> m.entry(a[0], a[1], a[2]);
            case 4 -> m.strikes(a[0], a[1]);
            case 5 -> m.tells(a[0], a[1], a[2]);
            case 6 -> m.slacks(a[0]);
            case 7 -> m.undo();
            case 8 -> m.span(a[0], a[1], a[2], a[3]);
            case 9 -> m.shift(a[0], a[1]);
            case 10 -> m.measure(a[0], a[1]);
            case 11 -> m.rank(a[0], a[1]);
            case 12 -> m.event(a[0], a[1]);
            case 13 -> m.date(a[0]);
            case 14 -> m.late(a[0], a[1]);
            case 15 -> m.line(a[0]);
            case 16 -> m.without();
            case 17 -> m.sees(a[0]);
            case 18 -> m.forget();
            case 19 -> m.unseen(a[0]);
            case 20 -> m.keep(a[0]);
            case 21 -> m.back(a[0]);
            case 22 -> m.count(a[0]);
            default -> throw new IllegalArgumentException("no call " + call);
        };
    }
}
