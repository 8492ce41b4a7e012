import java.util.Random;

/** Runs of calls by chance (always the same ones), each answered by the class and by the model. */
public final class AgainstModelTest {
    private static final Check CHECK = new Check("AgainstModelTest");
    private static final int RUNS = 3000;
    private static final int[] CHANGES = {Calls.STRIKES, Calls.STRIKES, Calls.STRIKES, Calls.TELLS, Calls.TELLS,
        Calls.TELLS, Calls.TELLS, Calls.SLACKS, Calls.UNDO, Calls.UNDO, Calls.SEES, Calls.SEES, Calls.FORGET,
        Calls.KEEP, Calls.BACK, Calls.TYPE};

    public static void main(String[] args) {
        for (int run = 0; run < RUNS; run++) {
            oneRun(new Random(run), new Both(CHECK, "run " + run));
        }
        CHECK.finish();
    }

    private static void oneRun(Random r, Both both) {
        tell(r, both);
        while (both.left() > 0) {
            if (both.left() > 150 && r.nextInt(150) == 0) {
                tell(r, both);
            } else if (r.nextInt(3) == 0) {
                change(r, both);
            } else {
                look(r, both);
            }
        }
    }

    private static void tell(Random r, Both both) {
        both.ask(Calls.CLEAR);
        String text = r.nextInt(4) == 0 ? spoilt(r, text(r)) : text(r);
        both.type(text);
        both.ask(Calls.HOUSES);
    }

    private static String text(Random r) {
        StringBuilder b = new StringBuilder();
        int houses = r.nextInt(8) == 0 ? r.nextInt(5) : 2 + r.nextInt(3);
        int slackAt = r.nextInt(8);
        int events = 3 + r.nextInt(6);
        int step = 1 + r.nextInt(8);
        for (int h = 0; h <= houses; h++) {
            if (h == slackAt) {
                b.append("s").append(blank(r)).append(r.nextInt(10)).append(";");
            }
            if (h < houses) {
                house(r, b, events, step);
            }
        }
        return b.toString();
    }

    private static void house(Random r, StringBuilder b, int events, int step) {
        b.append("q");
        int had = 0;
        int year = r.nextInt(20);
        int size = r.nextInt(7);
        boolean sorted = r.nextBoolean();
        for (int k = 0; k < size; k++) {
            int e = sorted ? Math.min(k, events - 1) : r.nextInt(events);
            if ((had >> e & 1) == 0) {
                had |= 1 << e;
                b.append((char) ('a' + e)).append(blank(r)).append(year).append(blank(r));
                year = Math.min(99, year + r.nextInt(step + 1));
            }
        }
        b.append(";").append(blank(r));
    }

    private static String blank(Random r) {
        return r.nextInt(12) == 0 ? " " : "";
    }

    private static String spoilt(Random r, String text) {
        StringBuilder b = new StringBuilder(text);
        String letters = "qsabcdefghi0123456789;; y\u00ff";
        for (int n = 1 + r.nextInt(3); n > 0; n--) {
            int at = r.nextInt(b.length() + 1);
            char c = letters.charAt(r.nextInt(letters.length()));
            switch (r.nextInt(4)) {
                case 0:
                    b.insert(at, c);
                    break;
                case 1:
                    b.setLength(at);
                    break;
                case 2:
                    b.replace(at, Math.min(at + 1, b.length()), String.valueOf(c));
                    break;
                default:
                    b.delete(at, Math.min(at + 1, b.length()));
            }
        }
        return b.toString();
    }

    /** Mostly what is there, now and then just beside it, seldom far away. */
    private static int pick(Random r, int from, int to) {
        int n = r.nextInt(200);
        if (n == 0) {
            return r.nextBoolean() ? Integer.MAX_VALUE : Integer.MIN_VALUE;
        }
        return n < 12 ? (n % 2 == 0 ? from - 1 : to + 1) : from + r.nextInt(to - from + 1);
    }

    private static int[] arguments(Random r, int call) {
        int[][] ranges = Calls.RANGES[call];
        int[] a = new int[ranges.length];
        for (int i = 0; i < a.length; i++) {
            a[i] = pick(r, ranges[i][0], ranges[i][1]);
        }
        return a;
    }

    /** A call that changes something, or is refused. */
    private static void change(Random r, Both both) {
        int call = CHANGES[r.nextInt(CHANGES.length)];
        int[] a = arguments(r, call);
        if (call == Calls.TELLS && r.nextInt(3) != 0) {
            a[2] = both.year(a[0], a[1]) + r.nextInt(9) - 4;
        }
        both.ask(call, a);
    }

    private static void look(Random r, Both both) {
        int call = r.nextInt(Calls.NAMES.length);
        if (call > Calls.HOUSES) {
            both.ask(call, arguments(r, call));
        }
    }
}
