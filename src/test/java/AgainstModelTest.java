import java.util.Random;

/** Runs of calls by chance (always the same ones), each answered by the class and by the model. */
public final class AgainstModelTest {
    private static final Check CHECK = new Check("AgainstModelTest");
    private static final int RUNS = 150;
    private static final int CALLS = 240;

    public static void main(String[] args) {
        for (int run = 0; run < RUNS; run++) {
            oneRun(new Random(run), run);
        }
        CHECK.finish();
    }

    private static void oneRun(Random r, int run) {
        YearLines x = new YearLines();
        Model m = new Model();
        for (int call = 0; call < CALLS; call++) {
            if (call % 60 == 0) {
                tell(r, x, m, run);
            }
            String at = "run " + run + ", call " + call + ": ";
            change(r, x, m, at);
            if (call % 12 == 11) {
                look(x, m, at);
            }
        }
    }

    private static void tell(Random r, YearLines x, Model m, int run) {
        due("run " + run + ": clear", x.clear(), m.clear());
        String text = r.nextInt(4) == 0 ? spoilt(r, text(r)) : text(r);
        for (char c : text.toCharArray()) {
            due("run " + run + ": type", x.type(c), m.type(c));
        }
        due("run " + run + ": houses of \"" + text + "\"", x.houses(), m.houses());
    }

    private static void due(String call, int got, int want) {
        CHECK.due(call, got, want);
    }

    private static String text(Random r) {
        StringBuilder b = new StringBuilder();
        int houses = r.nextInt(8) == 0 ? r.nextInt(5) : 2 + r.nextInt(3);
        int slackAt = r.nextInt(8);
        int events = 3 + r.nextInt(6);
        int step = 1 + r.nextInt(8);
        for (int h = 0; h <= houses; h++) {
            if (h == slackAt) {
                b.append("s").append(blank(r)).append(r.nextInt(10)).append(";");
            }
            if (h < houses) {
                house(r, b, events, step);
            }
        }
        return b.toString();
    }

    private static void house(Random r, StringBuilder b, int events, int step) {
        b.append("q");
        int had = 0;
        int year = r.nextInt(20);
        int size = r.nextInt(7);
        boolean sorted = r.nextBoolean();
        for (int k = 0; k < size; k++) {
            int e = sorted ? Math.min(k, events - 1) : r.nextInt(events);
            if ((had >> e & 1) == 0) {
                had |= 1 << e;
                b.append((char) ('a' + e)).append(blank(r)).append(year).append(blank(r));
                year = Math.min(99, year + r.nextInt(step + 1));
            }
        }
        b.append(";").append(blank(r));
    }

    private static String blank(Random r) {
        return r.nextInt(12) == 0 ? " " : "";
    }

    private static String spoilt(Random r, String text) {
        StringBuilder b = new StringBuilder(text);
        String letters = "qsabcdefghi0123456789;; y\u00ff";
        for (int n = 1 + r.nextInt(3); n > 0; n--) {
            int at = r.nextInt(b.length() + 1);
            char c = letters.charAt(r.nextInt(letters.length()));
            switch (r.nextInt(4)) {
                case 0:
                    b.insert(at, c);
                    break;
                case 1:
                    b.setLength(at);
                    break;
                case 2:
                    b.replace(at, Math.min(at + 1, b.length()), String.valueOf(c));
                    break;
                default:
                    b.delete(at, Math.min(at + 1, b.length()));
            }
        }
        return b.toString();
    }

    /** Mostly what is there, now and then just beside it, seldom far away. */
    private static int pick(Random r, int from, int to) {
        int n = r.nextInt(200);
        if (n == 0) {
            return r.nextBoolean() ? Integer.MAX_VALUE : Integer.MIN_VALUE;
        }
        return n < 12 ? (n % 2 == 0 ? from - 1 : to + 1) : from + r.nextInt(to - from + 1);
    }

    /** A call that changes something, or is refused. */
    private static void change(Random r, YearLines x, Model m, String at) {
        int house = pick(r, 0, 3);
        int k = pick(r, 0, 5);
        int n = pick(r, 0, 9);
        int image = pick(r, 0, 1);
        switch (r.nextInt(16)) {
            case 0, 1, 2 -> due(at + "strikes(" + house + ", " + k + ")", x.strikes(house, k), m.strikes(house, k));
            case 3, 4, 5, 6 -> {
                int year = r.nextInt(3) == 0 ? pick(r, 0, 99) : m.entry(house, k, 1) + r.nextInt(9) - 4;
                due(at + "tells(" + house + ", " + k + ", " + year + ")", x.tells(house, k, year),
                        m.tells(house, k, year));
            }
            case 7 -> due(at + "slacks(" + n + ")", x.slacks(n), m.slacks(n));
            case 8, 9 -> due(at + "undo()", x.undo(), m.undo());
            case 10, 11 -> due(at + "sees(" + n + ")", x.sees(n), m.sees(n));
            case 12 -> due(at + "forget()", x.forget(), m.forget());
            case 13 -> due(at + "keep(" + image + ")", x.keep(image), m.keep(image));
            case 14 -> due(at + "back(" + image + ")", x.back(image), m.back(image));
            default -> due(at + "type(" + (32 + n) + ")", x.type(32 + n), m.type(32 + n));
        }
    }

    /** All that may be asked, and a little beside it. */
    private static void look(YearLines x, Model m, String at) {
        for (int a = -1; a <= 9; a++) {
            due(at + "count(" + a + ")", x.count(a), m.count(a));
            due(at + "line(" + a + ")", x.line(a), m.line(a));
            due(at + "date(" + a + ")", x.date(a), m.date(a));
            due(at + "unseen(" + a + ")", x.unseen(a), m.unseen(a));
            for (int b = -1; b <= 8; b++) {
                due(at + "late(" + a + ", " + b + ")", x.late(a, b), m.late(a, b));
            }
            for (int b = -1; b <= 5; b++) {
                due(at + "shift(" + a + ", " + b + ")", x.shift(a, b), m.shift(a, b));
                due(at + "measure(" + a + ", " + b + ")", x.measure(a, b), m.measure(a, b));
                due(at + "rank(" + a + ", " + b + ")", x.rank(a, b), m.rank(a, b));
                due(at + "event(" + a + ", " + b + ")", x.event(a, b), m.event(a, b));
            }
        }
        due(at + "without()", x.without(), m.without());
        lookAtPairs(x, m, at);
    }

    private static void lookAtPairs(YearLines x, Model m, String at) {
        for (int a = -1; a <= 4; a++) {
            for (int b = -1; b <= 6; b++) {
                for (int c = -2; c <= 6; c++) {
                    due(at + "entry(" + a + ", " + b + ", " + c + ")", x.entry(a, b, c), m.entry(a, b, c));
                    for (int d = -1; d <= 4; d++) {
                        due(at + "span(" + a + ", " + b + ", " + c + ", " + d + ")", x.span(a, b, c, d),
                                m.span(a, b, c, d));
                    }
                }
            }
        }
    }
}
