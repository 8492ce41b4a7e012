/** What the project's tests share: telling a text, and comparing answers with those that are due. */
final class Check {
    private final String name;
    private String sentence = "";
    private int wrong;
    private int asked;

    Check(String name) {
        this.name = name;
    }

    /** The document's sentence that the next answers are about. */
    void about(String words) {
        sentence = "[" + words + "] ";
    }

    void due(String call, int got, int want) {
        asked++;
        if (got != want) {
            wrong++;
            System.out.println(name + ": " + sentence + call + " answered " + got + ", due is " + want);
        }
    }

    void finish() {
        System.out.println(name + ": " + asked + " answers, " + wrong + " of them wrong");
        if (wrong != 0 || asked == 0) {
            System.exit(1);
        }
    }

    static int type(YearLines x, String text) {
        int answer = 0;
        for (int i = 0; i < text.length(); i++) {
            answer = x.type(text.charAt(i));
        }
        return answer;
    }

    static YearLines told(String text) {
        YearLines x = new YearLines();
        type(x, text);
        int items = x.houses();
        if (items < 0) {
            throw new IllegalStateException("a test tells a text with a fault: " + text);
        }
        return x;
    }

    /** What houses() answers to a text on a new object. */
    static int answerTo(String text) {
        YearLines x = new YearLines();
        type(x, text);
        return x.houses();
    }

    static int bits(String events) {
        int bits = 0;
        for (int i = 0; i < events.length(); i++) {
            bits |= 1 << (events.charAt(i) - 'a');
        }
        return bits;
    }
}
