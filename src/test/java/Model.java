import java.util.ArrayDeque;
import java.util.ArrayList;
import java.util.Arrays;
import java.util.Deque;
import java.util.HashSet;
import java.util.List;
import java.util.Set;
import java.util.TreeMap;

/**
 * The document told a second time, in other words than the class: texts by pattern, whole states kept for undo,
 * chains by walking, sets of houses by leaving them out. It is slow and makes what it likes.
 */
final class Model {
    record Entry(int event, int year, boolean struck) { }

    record State(List<List<Entry>> houses, int slack) {
        static final State FIRST = new State(List.of(), 0);

        State with(int house, int k, Entry entry) {
            List<List<Entry>> all = new ArrayList<>(houses);
            List<Entry> one = new ArrayList<>(all.get(house));
            one.set(k, entry);
            all.set(house, List.copyOf(one));
            return new State(List.copyOf(all), slack);
        }

        List<Entry> left(int house) {
            return houses.get(house).stream().filter(e -> !e.struck()).toList();
        }

        Entry of(int house, int event) {
            for (Entry e : houses.get(house)) {
                if (e.event() == event && !e.struck()) {
                    return e;
                }
            }
            return null;
        }

        boolean ahead(int a, int b, int leftOut) {
            for (int h = 0; h < houses.size(); h++) {
                Entry one = of(h, a);
                Entry two = of(h, b);
                if ((leftOut >> h & 1) == 0 && one != null && two != null && one.year() < two.year()) {
                    return true;
                }
            }
            return false;
        }

        boolean chain(int from, int to, int leftOut) {
            Set<Integer> reached = new HashSet<>();
            Deque<Integer> open = new ArrayDeque<>(List.of(from));
            while (!open.isEmpty()) {
                int at = open.poll();
                for (int e = 0; e < 8; e++) {
                    if (ahead(at, e, leftOut) && reached.add(e)) {
                        open.add(e);
                    }
                }
            }
            return reached.contains(to);
        }

        int knots(int leftOut) {
            int bits = 0;
            for (int e = 0; e < 8; e++) {
                bits |= chain(e, e, leftOut) ? 1 << e : 0;
            }
            return bits;
        }

        Set<Integer> events() {
            Set<Integer> all = new HashSet<>();
            for (int h = 0; h < houses.size(); h++) {
                left(h).forEach(e -> all.add(e.event()));
            }
            return all;
        }
    }

    private final StringBuilder text = new StringBuilder();
    private State now = State.FIRST;
    private final Deque<State> done = new ArrayDeque<>();
    private final List<Integer> seen = new ArrayList<>();
    private final State[] images = new State[2];

    private boolean house(int h) {
        return h >= 0 && h < now.houses().size();
    }

    private boolean isEntry(int h, int k) {
        return house(h) && k >= 0 && k < now.houses().get(h).size();
    }

    private void change(State next) {
        done.addLast(now);
        if (done.size() > 10) {
            done.removeFirst();
        }
        now = next;
    }

    int type(int letter) {
        if (letter < 0 || letter > 255) {
            return -1;
        }
        if (text.length() == 110) {
            return -3;
        }
        text.append((char) letter);
        return text.length();
    }

    int clear() {
        int had = text.length();
        text.setLength(0);
        return had;
    }

    /** Tries ever longer beginnings: the first token that no text may go on with is the fault. */
    int houses() {
        List<int[]> tokens = new ArrayList<>();
        for (int i = 0; i < text.length();) {
            int from = i++;
            if (text.charAt(from) == ' ') {
                continue;
            }
            while (Character.digit(text.charAt(from), 10) >= 0 && i < text.length()
                    && text.charAt(i) >= '0' && text.charAt(i) <= '9') {
                i++;
            }
            tokens.add(new int[] {from, i});
        }
        String so = "";
        for (int[] token : tokens) {
            so += text.substring(token[0], token[1]) + " ";
            if (!mayGoOn(so)) {
                return -10 - token[0];
            }
        }
        if (!so.matches("(?s)((s|q)[^;]*; )*")) {
            return -10 - text.length();
        }
        now = tell(so);
        text.setLength(0);
        done.clear();
        seen.clear();
        Arrays.fill(images, null);
        return (int) so.chars().filter(c -> c == ';').count();
    }

    private static boolean mayGoOn(String so) {
        String number = "(0|[1-9][0-9]?) ";
        String entry = "([a-h] " + number + ")";
        String whole = "(s [0-9] ; |q " + entry + "{0,6}; )*";
        String part = "(s ([0-9] )?|q " + entry + "{0,6}|q " + entry + "{0,5}[a-h] )?";
        if (!so.matches(whole + part)) {
            return false;
        }
        if (so.chars().filter(c -> c == 's').count() > 1 || so.chars().filter(c -> c == 'q').count() > 4) {
            return false;
        }
        for (String item : so.split(";")) {
            String[] words = item.trim().split(" ");
            Set<String> events = new HashSet<>();
            int last = 0;
            for (int i = 1; words[0].equals("q") && i < words.length; i++) {
                if (i % 2 == 1 ? !events.add(words[i]) : Integer.parseInt(words[i]) < last) {
                    return false;
                }
                last = i % 2 == 0 ? Integer.parseInt(words[i]) : last;
            }
        }
        return true;
    }

    private static State tell(String so) {
        List<List<Entry>> houses = new ArrayList<>();
        int slack = 0;
        for (String item : so.split(";")) {
            String[] words = item.trim().split(" ");
            if (words[0].equals("s")) {
                slack = Integer.parseInt(words[1]);
            } else if (words[0].equals("q")) {
                List<Entry> entries = new ArrayList<>();
                for (int i = 1; i < words.length; i += 2) {
                    entries.add(new Entry(words[i].charAt(0) - 'a', Integer.parseInt(words[i + 1]), false));
                }
                houses.add(entries);
            }
        }
        return new State(houses, slack);
    }

    int entry(int h, int k, int what) {
        if (!isEntry(h, k) || what < 0 || what > 2) {
            return -1;
        }
        Entry e = now.houses().get(h).get(k);
        return what == 0 ? e.event() : what == 1 ? e.year() : e.struck() ? 1 : 0;
    }

    int strikes(int h, int k) {
        if (!isEntry(h, k)) {
            return -1;
        }
        Entry e = now.houses().get(h).get(k);
        change(now.with(h, k, new Entry(e.event(), e.year(), !e.struck())));
        return e.struck() ? 0 : 1;
    }

    int tells(int h, int k, int year) {
        if (!isEntry(h, k) || year < 0 || year > 99) {
            return -1;
        }
        List<Entry> all = now.houses().get(h);
        Entry e = all.get(k);
        if (e.year() == year || k > 0 && all.get(k - 1).year() > year
                || k + 1 < all.size() && all.get(k + 1).year() < year) {
            return -2;
        }
        change(now.with(h, k, new Entry(e.event(), year, e.struck())));
        return e.year();
    }

    int slacks(int n) {
        if (n < 0 || n > 9) {
            return -1;
        }
        int was = now.slack();
        if (was == n) {
            return -2;
        }
        change(new State(now.houses(), n));
        return was;
    }

    int undo() {
        if (done.isEmpty()) {
            return -2;
        }
        now = done.removeLast();
        return done.size();
    }

    /** Rows of {event, offset}. */
    private List<int[]> common(int p, int q) {
        List<int[]> rows = new ArrayList<>();
        for (Entry e : now.left(p)) {
            Entry there = now.of(q, e.event());
            if (there != null) {
                rows.add(new int[] {e.event(), there.year() - e.year()});
            }
        }
        return rows;
    }

    private List<List<int[]>> spans(int p, int q) {
        List<List<int[]>> spans = new ArrayList<>();
        List<int[]> rest = common(p, q);
        while (!rest.isEmpty()) {
            int size = rest.size();
            while (width(rest.subList(0, size)) > now.slack()) {
                size--;
            }
            spans.add(rest.subList(0, size));
            rest = rest.subList(size, rest.size());
        }
        return spans;
    }

    private static int width(List<int[]> rows) {
        return rows.stream().mapToInt(r -> r[1]).max().getAsInt() - rows.stream().mapToInt(r -> r[1]).min().getAsInt();
    }

    int span(int p, int q, int k, int what) {
        if (!house(p) || !house(q) || p == q || k < -1 || k >= 0 && (what < 0 || what > 3)) {
            return -1000000;
        }
        List<List<int[]>> spans = spans(p, q);
        if (k == -1) {
            return spans.size();
        }
        if (k >= spans.size()) {
            return -1000000;
        }
        List<int[]> one = spans.get(k);
        return what == 0 ? one.get(0)[0] : what == 1 ? one.get(one.size() - 1)[0] : what == 2 ? one.size()
                : one.stream().mapToInt(r -> r[1]).min().getAsInt();
    }

    private int shiftOf(int h) {
        TreeMap<Integer, Integer> votes = new TreeMap<>();
        if (h != 0) {
            common(0, h).forEach(r -> votes.merge(r[1], 1, Integer::sum));
        }
        int most = votes.values().stream().mapToInt(v -> v).max().orElse(0);
        for (int size = 0; size <= 99; size++) {
            for (int offset : new int[] {-size, size}) {
                if (votes.getOrDefault(offset, 0) == most) {
                    return offset;
                }
            }
        }
        throw new IllegalStateException();
    }

    int shift(int h, int what) {
        if (!house(h) || what < 0 || what > 2) {
            return -1000000;
        }
        int shift = shiftOf(h);
        if (what == 0) {
            return shift;
        }
        int bits = 0;
        if (h == 0) {
            for (Entry e : now.left(0)) {
                bits |= what == 1 ? 1 << e.event() : 0;
            }
            return bits;
        }
        for (int[] row : common(0, h)) {
            bits |= row[1] == shift == (what == 1) ? 1 << row[0] : 0;
        }
        return bits;
    }

    int measure(int h, int by) {
        if (!house(h) || by < 0 || by > 4) {
            return -1;
        }
        switch (by) {
            case 0:
                return now.left(h).size();
            case 1:
                return Integer.bitCount(shift(h, 1));
            case 2:
                return h == 0 ? Math.min(1, now.left(0).size()) : spans(0, h).size();
            case 3:
                return (int) now.left(h).stream().filter(e -> event(e.event(), 0) == 1 << h).count();
            default:
                return (int) now.left(h).stream().filter(e -> now.chain(e.event(), e.event(), 0)).count();
        }
    }

    int rank(int by, int k) {
        if (by < 0 || by > 4 || k < 0) {
            return -1;
        }
        List<Integer> all = new ArrayList<>();
        for (int h = 0; h < now.houses().size(); h++) {
            all.add(h);
        }
        all.sort((a, b) -> measure(a, by) != measure(b, by) ? measure(b, by) - measure(a, by) : a - b);
        return k < all.size() ? all.get(k) : -9;
    }

    int event(int e, int what) {
        if (e < 0 || e > 7 || what < 0 || what > 3) {
            return -1;
        }
        int bits = 0;
        for (int i = 0; i < 8; i++) {
            boolean so = what == 0 ? house(i) && now.of(i, e) != null
                    : what == 1 ? now.ahead(e, i, 0) : what == 2 ? now.chain(e, i, 0) : i == 0 && now.chain(e, e, 0);
            bits |= so ? 1 << i : 0;
        }
        return bits;
    }

    int date(int e) {
        for (int h = 0; h < now.houses().size(); h++) {
            if (now.of(h, e) != null) {
                return now.of(h, e).year() - shiftOf(h);
            }
        }
        return -1000000;
    }

    int late(int e, int other) {
        return date(e) == -1000000 || date(other) == -1000000 ? -1000000 : date(e) - date(other);
    }

    int line(int k) {
        if (k < 0) {
            return -1;
        }
        if (now.knots(0) != 0) {
            return -9;
        }
        List<Integer> left = new ArrayList<>(now.events());
        List<Integer> line = new ArrayList<>();
        while (!left.isEmpty()) {
            Integer next = left.stream().filter(e -> left.stream().noneMatch(o -> now.ahead(o, e, 0)))
                    .min(Integer::compare).get();
            line.add(next);
            left.remove(next);
        }
        return k < line.size() ? line.get(k) : -9;
    }

    int without() {
        int houses = now.houses().size();
        for (int size = 0; size <= houses; size++) {
            for (int set = 0; set < 1 << houses; set++) {
                if (Integer.bitCount(set) == size && now.knots(set) == 0) {
                    return set;
                }
            }
        }
        throw new IllegalStateException();
    }

    int sees(int n) {
        if (n < 0 || n > 8) {
            return -1;
        }
        if (seen.size() == 6) {
            return -3;
        }
        seen.add(n);
        return seen.size();
    }

    int forget() {
        int had = seen.size();
        seen.clear();
        return had;
    }

    int unseen(int what) {
        if (what < 0 || what > 1) {
            return -1;
        }
        List<Integer> found = new ArrayList<>();
        for (int h = 0; h < now.houses().size(); h++) {
            for (int k = 0; k < now.houses().get(h).size(); k++) {
                Entry e = now.houses().get(h).get(k);
                int knots = Integer.bitCount(now.with(h, k, new Entry(e.event(), e.year(), true)).knots(0));
                if (!e.struck() && seen.stream().allMatch(n -> n == knots)) {
                    found.add(10 * h + k);
                }
            }
        }
        return what == 0 ? found.size() : found.isEmpty() ? -9 : found.get(0);
    }

    int keep(int image) {
        if (image < 0 || image > 1) {
            return -1;
        }
        images[image] = now;
        return now.houses().size();
    }

    int back(int image) {
        if (image < 0 || image > 1) {
            return -1;
        }
        if (images[image] == null) {
            return -2;
        }
        now = images[image];
        done.clear();
        return now.houses().size();
    }

    int count(int what) {
        switch (what) {
            case 0:
                return now.houses().size();
            case 1:
                return now.houses().stream().mapToInt(h -> (int) h.stream().filter(e -> !e.struck()).count()).sum();
            case 2:
                return now.events().size();
            case 3:
                return Integer.bitCount(now.knots(0));
            case 4:
                return now.slack();
            case 5:
                return seen.size();
            case 6:
                return text.length();
            case 7:
                return done.size();
            default:
                return -1;
        }
    }
}
