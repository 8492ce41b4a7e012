/** An object and the model beside it: every call is asked of both, never more than 512 of them. */
final class Both {
    static final int MOST_CALLS = 512;

    private final Check check;
    private final String label;
    private final YearLines x = new YearLines();
    private final Model m = new Model();
    private int calls;

    Both(Check check, String label) {
        this.check = check;
        this.label = label;
    }

    int left() {
        return MOST_CALLS - calls;
    }

    void ask(int call, int... a) {
        if (calls >= MOST_CALLS) {
            throw new IllegalStateException("what an object answers behind 512 calls is free");
        }
        calls++;
        int want = Calls.ask(m, call, a);
        check.due(label + ", call " + calls + ": " + Calls.words(call, a), Calls.ask(x, call, a), want);
    }

    void type(String text) {
        for (int i = 0; i < text.length(); i++) {
            ask(Calls.TYPE, text.charAt(i));
        }
    }

    /** The year that an entry has, by the model; below 0 if there is none. */
    int year(int house, int k) {
        return m.entry(house, k, 1);
    }
}
