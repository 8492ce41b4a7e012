import java.util.TreeSet;

/** Every call with every mixture of arguments at, beside and far beyond their bounds, against the model. */
public final class ExtremesTest {
    private static final Check CHECK = new Check("ExtremesTest");
    private static final int[] FAR = {Integer.MIN_VALUE, Integer.MIN_VALUE + 1, -1000000, -65536, -256, 256, 65536,
        1000000, Integer.MAX_VALUE - 1, Integer.MAX_VALUE};
    private static final String[] STATES = {"new", "midway", "full"};

    public static void main(String[] args) {
        for (String state : STATES) {
            for (int call = 0; call < Calls.NAMES.length; call++) {
                mixtures(state, call);
            }
        }
        CHECK.finish();
    }

    /** An object in a state, with most of its calls left. */
    private static Both made(String state) {
        Both both = new Both(CHECK, state);
        if (state.equals("midway")) {
            both.type("s2;qa10b20c30;qb15a18d40;q;");
            both.ask(Calls.HOUSES);
            both.ask(Calls.STRIKES, 0, 1);
            both.ask(Calls.KEEP, 1);
            both.ask(Calls.SEES, 0);
            both.type("qa");
        } else if (state.equals("full")) {
            both.type("s9;qa0b1c2d3e4f99;qa0b20c30d40e50f60;qc0d10e20f30g40h99;qh0g10f20e30d40c99;");
            both.ask(Calls.HOUSES);
            both.ask(Calls.KEEP, 0);
            both.ask(Calls.KEEP, 1);
            for (int i = 0; i < 6; i++) {
                both.ask(Calls.STRIKES, 3, i);
                both.ask(Calls.TELLS, 1, 5, 61 + i);
                both.ask(Calls.SEES, 0);
            }
            both.type("q".repeat(111));
        }
        return both;
    }

    private static int[] values(int call, int argument, int arguments) {
        int from = Calls.RANGES[call][argument][0];
        int to = Calls.RANGES[call][argument][1];
        TreeSet<Integer> all = new TreeSet<>();
        for (int n : new int[] {from - 2, from - 1, from, from + 1, to - 1, to, to + 1, to + 2}) {
            all.add(n);
        }
        for (int i = 0; i < FAR.length; i++) {
            // Four arguments with all values each would be too many mixtures: the farthest ones tell enough.
            if (arguments < 4 || i < 1 || i >= FAR.length - 1) {
                all.add(FAR[i]);
            }
        }
        return all.stream().mapToInt(n -> n).toArray();
    }

    private static void mixtures(String state, int call) {
        int arguments = Calls.RANGES[call].length;
        int[][] values = new int[arguments][];
        int size = 1;
        for (int i = 0; i < arguments; i++) {
            values[i] = values(call, i, arguments);
            size *= values[i].length;
        }
        Both both = made(state);
        for (int n = 0; n < size; n++) {
            int[] a = new int[arguments];
            int rest = n;
            for (int i = 0; i < arguments; i++) {
                a[i] = values[i][rest % values[i].length];
                rest /= values[i].length;
            }
            if (both.left() < 40) {
                both = made(state);
            }
            both.ask(call, a);
            if (n % 50 == 0) {
                counts(both);
            }
        }
        counts(both);
    }

    private static void counts(Both both) {
        for (int what = 0; what < 8; what++) {
            both.ask(Calls.NAMES.length - 1, what);
        }
    }
}
