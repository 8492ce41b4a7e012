import java.util.ArrayList;
import java.util.List;
import java.util.function.BiConsumer;
import java.util.function.Consumer;
import java.util.function.Supplier;
import java.util.function.ToIntFunction;

/**
 * "Refused, and nothing changes, the first of these: BAD, STATE, FULL". Each refused call is made on an object, and
 * then all that can be seen of it is compared with an object of the same calls but for that one: what it answers, what
 * can be undone, both images, the text, what was seen. A call that only asks must change nothing either.
 */
public final class RefusedTest {
    private static final Check CHECK = new Check("RefusedTest");
    private static final int BAD = YearLines.BAD;
    private static final int STATE = YearLines.STATE;
    private static final int FULL = YearLines.FULL;
    private static final int NO = YearLines.NO;
    private static final int MIN = Integer.MIN_VALUE;
    private static final int MAX = Integer.MAX_VALUE;

    private record Call(String name, ToIntFunction<YearLines> ask, int due) { }

    public static void main(String[] args) {
        for (Call call : badOfAll()) {
            nothingChanges("new", YearLines::new, call);
            nothingChanges("midway", RefusedTest::midway, call);
            nothingChanges("full", RefusedTest::full, call);
        }
        for (Call call : refusedOfNew()) {
            nothingChanges("new", YearLines::new, call);
        }
        for (Call call : refusedMidway()) {
            nothingChanges("midway", RefusedTest::midway, call);
        }
        for (Call call : refusedOfFull()) {
            nothingChanges("full", RefusedTest::full, call);
        }
        askingChangesNothing("new", YearLines::new);
        askingChangesNothing("midway", RefusedTest::midway);
        askingChangesNothing("full", RefusedTest::full);
        whateverWasAskedAhead();
        CHECK.finish();
    }

    /** Entries struck, told, images kept, deeds left to undo, something seen, half a text. */
    private static YearLines midway() {
        YearLines x = Check.told("s2;qa10b20c30;qb15a18d40;qc1a2;");
        x.strikes(0, 1);
        x.keep(0);
        x.tells(2, 1, 5);
        x.slacks(5);
        x.keep(1);
        x.sees(0);
        x.strikes(1, 2);
        x.tells(0, 2, 99);
        Check.type(x, "qa7");
        return x;
    }

    /** Ten deeds and lost ones, six things seen, a text of 110 letters with a fault at its last. */
    private static YearLines full() {
        YearLines x = Check.told("qa10b20;qb15a18d40;q;qc1a2;");
        x.keep(1);
        for (int n = 1; n <= 9; n++) {
            x.slacks(n);
        }
        x.strikes(1, 0);
        x.tells(0, 1, 33);
        x.keep(0);
        x.tells(3, 0, 0);
        for (int i = 0; i < 6; i++) {
            x.sees(0);
        }
        Check.type(x, " ".repeat(105) + "qa5;y");
        return x;
    }

    private static List<Call> badOfAll() {
        List<Call> calls = new ArrayList<>();
        for (int n : new int[] {-1, 256, MIN, MAX}) {
            calls.add(new Call("type(" + n + ")", x -> x.type(n), BAD));
        }
        for (int n : new int[] {-1, 4, MIN, MAX}) {
            calls.add(new Call("strikes(" + n + ", 0)", x -> x.strikes(n, 0), BAD));
            calls.add(new Call("tells(" + n + ", 0, 50)", x -> x.tells(n, 0, 50), BAD));
            calls.add(new Call("entry(" + n + ", 0, 0)", x -> x.entry(n, 0, 0), BAD));
            calls.add(new Call("span(" + n + ", 0, 0, 0)", x -> x.span(n, 0, 0, 0), NO));
            calls.add(new Call("span(0, " + n + ", 0, 0)", x -> x.span(0, n, 0, 0), NO));
            calls.add(new Call("shift(" + n + ", 0)", x -> x.shift(n, 0), NO));
            calls.add(new Call("measure(" + n + ", 0)", x -> x.measure(n, 0), BAD));
        }
        for (int k : new int[] {-1, 6, MIN, MAX}) {
            calls.add(new Call("strikes(0, " + k + ")", x -> x.strikes(0, k), BAD));
            calls.add(new Call("tells(0, " + k + ", 50)", x -> x.tells(0, k, 50), BAD));
            calls.add(new Call("entry(0, " + k + ", 0)", x -> x.entry(0, k, 0), BAD));
            calls.add(new Call("measure(0, " + k + ")", x -> x.measure(0, k), BAD));
            calls.add(new Call("rank(" + k + ", 0)", x -> x.rank(k, 0), BAD));
            calls.add(new Call("event(0, " + k + ")", x -> x.event(0, k), BAD));
        }
        for (int n : new int[] {-1, 10, MIN, MAX}) {
            calls.add(new Call("slacks(" + n + ")", x -> x.slacks(n), BAD));
            calls.add(new Call("sees(" + n + ")", x -> x.sees(n), BAD));
            calls.add(new Call("keep(" + n + ")", x -> x.keep(n), BAD));
            calls.add(new Call("back(" + n + ")", x -> x.back(n), BAD));
            calls.add(new Call("unseen(" + n + ")", x -> x.unseen(n), BAD));
            calls.add(new Call("count(" + n + ")", x -> x.count(n), BAD));
            calls.add(new Call("event(" + n + ", 0)", x -> x.event(n, 0), BAD));
            calls.add(new Call("date(" + n + ")", x -> x.date(n), NO));
            calls.add(new Call("late(" + n + ", 0)", x -> x.late(n, 0), NO));
        }
        calls.add(new Call("sees(9)", x -> x.sees(9), BAD));
        calls.add(new Call("keep(2)", x -> x.keep(2), BAD));
        calls.add(new Call("back(2)", x -> x.back(2), BAD));
        calls.add(new Call("line(-1)", x -> x.line(-1), BAD));
        calls.add(new Call("rank(0, -1)", x -> x.rank(0, -1), BAD));
        return calls;
    }

    private static List<Call> refusedOfNew() {
        return List.of(
                new Call("strikes(0, 0)", x -> x.strikes(0, 0), BAD),
                new Call("tells(0, 0, 0)", x -> x.tells(0, 0, 0), BAD),
                new Call("slacks(0)", x -> x.slacks(0), STATE),
                new Call("undo()", YearLines::undo, STATE),
                new Call("back(0)", x -> x.back(0), STATE),
                new Call("back(1)", x -> x.back(1), STATE));
    }

    private static List<Call> refusedMidway() {
        return List.of(
                new Call("houses()", YearLines::houses, -13),
                new Call("strikes(0, 3)", x -> x.strikes(0, 3), BAD),
                new Call("strikes(2, 2)", x -> x.strikes(2, 2), BAD),
                new Call("strikes(3, 0)", x -> x.strikes(3, 0), BAD),
                new Call("tells(3, 0, 5)", x -> x.tells(3, 0, 5), BAD),
                new Call("tells(0, 3, 99)", x -> x.tells(0, 3, 99), BAD),
                new Call("tells(0, 0, -1)", x -> x.tells(0, 0, -1), BAD),
                new Call("tells(0, 0, 100)", x -> x.tells(0, 0, 100), BAD),
                new Call("tells(0, 0, min)", x -> x.tells(0, 0, MIN), BAD),
                new Call("tells(0, 0, max)", x -> x.tells(0, 0, MAX), BAD),
                new Call("tells, it is that", x -> x.tells(0, 0, 10), STATE),
                new Call("tells, it is that, struck", x -> x.tells(0, 1, 20), STATE),
                new Call("tells, less than the one ahead", x -> x.tells(0, 1, 9), STATE),
                new Call("tells, more than the one behind", x -> x.tells(0, 0, 21), STATE),
                new Call("tells, less than a struck one ahead", x -> x.tells(0, 2, 19), STATE),
                new Call("slacks, it is that", x -> x.slacks(5), STATE));
    }

    private static List<Call> refusedOfFull() {
        List<Call> calls = new ArrayList<>();
        calls.add(new Call("houses()", YearLines::houses, -10 - 109));
        calls.add(new Call("strikes in a house without entries", x -> x.strikes(2, 0), BAD));
        calls.add(new Call("tells in a house without entries", x -> x.tells(2, 0, 5), BAD));
        calls.add(new Call("slacks, it is that", x -> x.slacks(9), STATE));
        calls.add(new Call("tells, it is that", x -> x.tells(3, 0, 0), STATE));
        for (int letter : new int[] {0, ' ', ';', 255}) {
            calls.add(new Call("type(" + letter + "), full", x -> x.type(letter), FULL));
        }
        for (int n = 0; n <= 8; n++) {
            int seen = n;
            calls.add(new Call("sees(" + n + "), full", x -> x.sees(seen), FULL));
        }
        return calls;
    }

    private static void nothingChanges(String state, Supplier<YearLines> made, Call call) {
        CHECK.about("Refused, and nothing changes: " + call.name() + ", " + state);
        unchanged(state, made, x -> CHECK.due(call.name(), call.ask().applyAsInt(x), call.due()));
    }

    private static void unchanged(String label, Supplier<YearLines> made, Consumer<YearLines> done) {
        List<BiConsumer<YearLines, YearLines>> views = List.of(
                (x, y) -> Looks.same(CHECK, label, x, y),
                (x, y) -> entriesAndCounts(label, x, y),
                (x, y) -> undone(label, x, y),
                (x, y) -> image(label, 0, x, y),
                (x, y) -> image(label, 1, x, y),
                (x, y) -> text(label, x, y),
                (x, y) -> seen(label, x, y));
        for (BiConsumer<YearLines, YearLines> view : views) {
            YearLines x = made.get();
            done.accept(x);
            view.accept(x, made.get());
        }
    }

    private static void entriesAndCounts(String label, YearLines x, YearLines y) {
        Looks.sameEntries(CHECK, label, x, y);
        for (int what = 0; what < 8; what++) {
            CHECK.due(label + ": count(" + what + ")", x.count(what), y.count(what));
        }
    }

    private static void undone(String label, YearLines x, YearLines y) {
        for (int i = 0; i < 11; i++) {
            CHECK.due(label + ": undo()", x.undo(), y.undo());
            for (int what : new int[] {1, 3, 4, 7}) {
                CHECK.due(label + ": count(" + what + ") behind undo()", x.count(what), y.count(what));
            }
            for (int place = 0; place < 8; place++) {
                int house = place / 2;
                int k = place % 2;
                CHECK.due(label + ": year behind undo()", x.entry(house, k, 1), y.entry(house, k, 1));
            }
        }
        Looks.sameEntries(CHECK, label + ", all undone", x, y);
    }

    private static void image(String label, int image, YearLines x, YearLines y) {
        CHECK.due(label + ": back(" + image + ")", x.back(image), y.back(image));
        entriesAndCounts(label + ", image " + image, x, y);
    }

    private static void text(String label, YearLines x, YearLines y) {
        CHECK.due(label + ": type", x.type(';'), y.type(';'));
        CHECK.due(label + ": houses()", x.houses(), y.houses());
        entriesAndCounts(label + ", read anew", x, y);
        CHECK.due(label + ": clear()", x.clear(), y.clear());
    }

    private static void seen(String label, YearLines x, YearLines y) {
        CHECK.due(label + ": unseen(0)", x.unseen(0), y.unseen(0));
        CHECK.due(label + ": unseen(1)", x.unseen(1), y.unseen(1));
        CHECK.due(label + ": sees(0)", x.sees(0), y.sees(0));
        CHECK.due(label + ": unseen(0)", x.unseen(0), y.unseen(0));
        CHECK.due(label + ": forget()", x.forget(), y.forget());
        CHECK.due(label + ": unseen(0)", x.unseen(0), y.unseen(0));
    }

    private static void askingChangesNothing(String state, Supplier<YearLines> made) {
        CHECK.about("As things are NOW; nothing is changed: asking, " + state);
        unchanged(state, made, RefusedTest::askAll);
    }

    private static void askAll(YearLines x) {
        for (int n = 0; n < 2; n++) {
            x.unseen(n);
            x.span(0, 1, n - 1, 3);
            x.span(1, 0, n - 1, 0);
            x.entry(n, 1, 2);
            x.shift(n, 2);
            x.event(n, 2);
            x.event(n, 3);
            x.date(n);
            x.late(n, 1 - n);
            x.line(n);
            x.without();
        }
        for (int by = 0; by < 5; by++) {
            x.measure(1, by);
            x.rank(by, 1);
            x.count(by + 3);
        }
    }

    /** Rows that are used again must not carry anything from one answer into the next. */
    private static void whateverWasAskedAhead() {
        CHECK.about("As things are NOW; nothing is changed: whatever was asked ahead");
        List<Call> questions = questions();
        for (Call first : questions) {
            for (Call second : questions) {
                YearLines x = crossed();
                first.ask().applyAsInt(x);
                CHECK.due(second.name() + " behind " + first.name(), second.ask().applyAsInt(x), second.due());
            }
        }
    }

    /** Houses 1 and 2 have events in common that house 0 has not. */
    private static YearLines crossed() {
        YearLines x = Check.told("s1;qa1b5g6;qc1d2a9;qd1c3b4h7;q;");
        x.strikes(0, 2);
        x.sees(0);
        return x;
    }

    private static List<Call> questions() {
        List<Call> all = new ArrayList<>();
        for (int pair = 0; pair < 16; pair++) {
            int p = pair / 4;
            int q = pair % 4;
            add(all, "span(" + p + ", " + q + ", -1, 0)", x -> x.span(p, q, -1, 0));
            add(all, "span(" + p + ", " + q + ", 0, 3)", x -> x.span(p, q, 0, 3));
        }
        for (int n = 0; n < 4; n++) {
            int house = n;
            for (int w = 0; w < 5; w++) {
                int what = w;
                add(all, "shift(" + house + ", " + what + ")", x -> x.shift(house, what));
                add(all, "measure(" + house + ", " + what + ")", x -> x.measure(house, what));
                add(all, "rank(" + what + ", " + house + ")", x -> x.rank(what, house));
            }
        }
        for (int n = 0; n < 8; n++) {
            int e = n;
            add(all, "event(" + e + ", 1)", x -> x.event(e, 1));
            add(all, "event(" + e + ", 2)", x -> x.event(e, 2));
            add(all, "date(" + e + ")", x -> x.date(e));
            add(all, "late(" + e + ", 1)", x -> x.late(e, 1));
            add(all, "line(" + e + ")", x -> x.line(e));
            add(all, "count(" + e + ")", x -> x.count(e));
        }
        add(all, "without()", YearLines::without);
        add(all, "unseen(0)", x -> x.unseen(0));
        add(all, "unseen(1)", x -> x.unseen(1));
        return all;
    }

    /** What is due is what an object answers that is asked nothing else. */
    private static void add(List<Call> all, String name, ToIntFunction<YearLines> ask) {
        all.add(new Call(name, ask, ask.applyAsInt(crossed())));
    }
}
