/** Chronicles of several houses joined; the document says what each call answers. */
public final class YearLines {
    public static final int BAD = -1, STATE = -2, FULL = -3, NONE = -9;
    public static final int NO = -1000000;

    private static final int MOST_LETTERS = 110;
    private static final int MOST_HOUSES = 4;
    private static final int MOST_ENTRIES = 6;
    private static final int EVENTS = 8;
    private static final int MOST_YEAR = 99;
    private static final int MOST_SLACK = 9;
    private static final int MOST_SEEN = 6;
    private static final int MOST_DEEDS = 10;
    private static final int IMAGES = 2;
    private static final int MEASURES = 5;
    private static final int FAULT_BASE = -10;

    private final Reader reader;
    private final Chronicle now;
    private final Chronicle draft;
    private final Chronicle[] images;
    private int imagesKept;
    private final Deeds deeds;
    private final Pair pair;
    private final Order order;
    private final int[] measures;
    private final int[] seen;
    private int seenSize;

    public YearLines() {
        reader = new Reader();
        now = new Chronicle();
        draft = new Chronicle();
        images = new Chronicle[IMAGES];
        for (int i = 0; i < IMAGES; i++) {
            images[i] = new Chronicle();
        }
        imagesKept = 0;
        deeds = new Deeds();
        pair = new Pair();
        order = new Order();
        measures = new int[MOST_HOUSES];
        seen = new int[MOST_SEEN];
        seenSize = 0;
    }

    // ---- chronicles

    public int type(int letter) {
        if (letter < 0 || letter > 255) {
            return BAD;
        }
        return reader.put(letter) ? reader.size : FULL;
    }

    public int clear() {
        int had = reader.size;
        reader.size = 0;
        return had;
    }

    public int houses() {
        int items = reader.read(draft);
        if (items < 0) {
            return items;
        }
        now.copy(draft);
        reader.size = 0;
        imagesKept = 0;
        deeds.size = 0;
        seenSize = 0;
        return items;
    }

    public int entry(int house, int k, int what) {
        if (!now.hasEntry(house, k)) {
            return BAD;
        }
        House h = now.all[house];
        switch (what) {
            case 0:
                return h.events[k];
            case 1:
                return h.years[k];
            case 2:
                return h.isStruck(k) ? 1 : 0;
            default:
                return BAD;
        }
    }

    // ---- what is done

    public int strikes(int house, int k) {
        if (!now.hasEntry(house, k)) {
            return BAD;
        }
        House h = now.all[house];
        deeds.add(Deeds.STRIKE, house, k, 0);
        h.turn(k);
        return h.isStruck(k) ? 1 : 0;
    }

    public int tells(int house, int k, int year) {
        if (!now.hasEntry(house, k) || year < 0 || year > MOST_YEAR) {
            return BAD;
        }
        House h = now.all[house];
        int was = h.years[k];
        if (year == was || !h.mayTell(k, year)) {
            return STATE;
        }
        deeds.add(Deeds.TELL, house, k, was);
        h.years[k] = year;
        return was;
    }

    public int slacks(int n) {
        if (n < 0 || n > MOST_SLACK) {
            return BAD;
        }
        int was = now.slack;
        if (n == was) {
            return STATE;
        }
        deeds.add(Deeds.SLACK, 0, 0, was);
        now.slack = n;
        return was;
    }

    public int undo() {
        if (deeds.size == 0) {
            return STATE;
        }
        deeds.takeBack(now);
        return deeds.size;
    }

    // ---- two houses

    public int span(int p, int q, int k, int what) {
        if (!now.hasHouse(p) || !now.hasHouse(q) || p == q || k < -1) {
            return NO;
        }
        pair.join(now.all[p], now.all[q]);
        if (k == -1) {
            return pair.spans(now.slack);
        }
        int from = pair.spanStart(k, now.slack);
        if (from >= pair.size) {
            return NO;
        }
        int to = pair.spanEnd(from, now.slack);
        switch (what) {
            case 0:
                return pair.events[from];
            case 1:
                return pair.events[to - 1];
            case 2:
                return to - from;
            case 3:
                return pair.leastOffset(from, to);
            default:
                return NO;
        }
    }

    public int shift(int house, int what) {
        if (!now.hasHouse(house)) {
            return NO;
        }
        switch (what) {
            case 0:
                return shiftOf(house);
            case 1:
                return agreedOf(house);
            case 2:
                return againstOf(house);
            default:
                return NO;
        }
    }

    public int measure(int house, int by) {
        if (!now.hasHouse(house) || by < 0 || by >= MEASURES) {
            return BAD;
        }
        return measureOf(house, by);
    }

    public int rank(int by, int k) {
        if (by < 0 || by >= MEASURES || k < 0) {
            return BAD;
        }
        for (int i = 0; i < now.size; i++) {
            measures[i] = measureOf(i, by);
        }
        for (int i = 0; i < now.size; i++) {
            if (housesAbove(i) == k) {
                return i;
            }
        }
        return NONE;
    }

    // ---- events

    public int event(int e, int what) {
        if (!isEvent(e)) {
            return BAD;
        }
        order.look(now, 0);
        switch (what) {
            case 0:
                return now.housesThatHave(e);
            case 1:
                return order.ahead[e];
            case 2:
                return order.chains[e];
            case 3:
                return order.knots() >> e & 1;
            default:
                return BAD;
        }
    }

    public int date(int e) {
        return isEvent(e) ? dateOf(e) : NO;
    }

    public int late(int e, int other) {
        if (!isEvent(e) || !isEvent(other)) {
            return NO;
        }
        int one = dateOf(e);
        int two = dateOf(other);
        return one == NO || two == NO ? NO : one - two;
    }

    public int line(int k) {
        if (k < 0) {
            return BAD;
        }
        order.look(now, 0);
        return order.knots() == 0 ? order.inLine(now.eventBits(), k) : NONE;
    }

    public int without() {
        int best = (1 << now.size) - 1;
        for (int set = 0; set < 1 << now.size; set++) {
            if (Integer.bitCount(set) < Integer.bitCount(best)) {
                order.look(now, set);
                best = order.knots() == 0 ? set : best;
            }
        }
        return best;
    }

    // ---- which entry

    public int sees(int n) {
        if (n < 0 || n > EVENTS) {
            return BAD;
        }
        if (seenSize >= MOST_SEEN) {
            return FULL;
        }
        seen[seenSize] = n;
        seenSize++;
        return seenSize;
    }

    public int forget() {
        int had = seenSize;
        seenSize = 0;
        return had;
    }

    public int unseen(int what) {
        if (what != 0 && what != 1) {
            return BAD;
        }
        int found = 0;
        int first = NONE;
        for (int house = 0; house < now.size; house++) {
            for (int k = 0; k < now.all[house].size; k++) {
                if (maySeem(house, k)) {
                    first = found == 0 ? 10 * house + k : first;
                    found++;
                }
            }
        }
        return what == 0 ? found : first;
    }

    // ---- images

    public int keep(int image) {
        if (image < 0 || image >= IMAGES) {
            return BAD;
        }
        images[image].copy(now);
        imagesKept |= 1 << image;
        return now.size;
    }

    public int back(int image) {
        if (image < 0 || image >= IMAGES) {
            return BAD;
        }
        if ((imagesKept >> image & 1) == 0) {
            return STATE;
        }
        now.copy(images[image]);
        deeds.size = 0;
        return now.size;
    }

    public int count(int what) {
        switch (what) {
            case 0:
                return now.size;
            case 1:
                return now.entriesLeft();
            case 2:
                return Integer.bitCount(now.eventBits());
            case 3:
                return Integer.bitCount(knotsNow());
            case 4:
                return now.slack;
            case 5:
                return seenSize;
            case 6:
                return reader.size;
            case 7:
                return deeds.size;
            default:
                return BAD;
        }
    }

    private static boolean isEvent(int e) {
        return e >= 0 && e < EVENTS;
    }

    private int knotsNow() {
        order.look(now, 0);
        return order.knots();
    }

    private int shiftOf(int house) {
        if (house == 0) {
            return 0;
        }
        pair.join(now.all[0], now.all[house]);
        return pair.commonestOffset();
    }

    private int agreedOf(int house) {
        if (house == 0) {
            return now.all[0].eventBits();
        }
        int shift = shiftOf(house);
        return pair.eventsWith(shift);
    }

    private int againstOf(int house) {
        if (house == 0) {
            return 0;
        }
        int agreed = agreedOf(house);
        return pair.eventBits() & ~agreed;
    }

    private int measureOf(int house, int by) {
        switch (by) {
            case 0:
                return now.all[house].entriesLeft();
            case 1:
                return Integer.bitCount(agreedOf(house));
            case 2:
                return spansByFirst(house);
            case 3:
                return Integer.bitCount(eventsOfNoOther(house));
            default:
                return Integer.bitCount(now.all[house].eventBits() & knotsNow());
        }
    }

    private int spansByFirst(int house) {
        if (house == 0) {
            return now.all[0].entriesLeft() == 0 ? 0 : 1;
        }
        pair.join(now.all[0], now.all[house]);
        return pair.spans(now.slack);
    }

    private int eventsOfNoOther(int house) {
        int bits = now.all[house].eventBits();
        for (int i = 0; i < now.size; i++) {
            if (i != house) {
                bits &= ~now.all[i].eventBits();
            }
        }
        return bits;
    }

    private int housesAbove(int house) {
        int above = 0;
        for (int i = 0; i < now.size; i++) {
            if (measures[i] > measures[house] || i < house && measures[i] == measures[house]) {
                above++;
            }
        }
        return above;
    }

    private int dateOf(int e) {
        for (int house = 0; house < now.size; house++) {
            int k = now.all[house].placeOf(e);
            if (k >= 0) {
                return now.all[house].years[k] - shiftOf(house);
            }
        }
        return NO;
    }

    /** Whether the entry, being struck, would leave as many knots as all that was seen says. */
    private boolean maySeem(int house, int k) {
        if (now.all[house].isStruck(k)) {
            return false;
        }
        if (seenSize == 0) {
            return true;
        }
        order.lookStruck(now, house, k);
        int knots = Integer.bitCount(order.knots());
        for (int i = 0; i < seenSize; i++) {
            if (seen[i] != knots) {
                return false;
            }
        }
        return true;
    }

    /** One house: its entries, in rows that are made once and used again. */
    private static final class House {
        final int[] events;
        final int[] years;
        int size;
        int struckBits;

        House() {
            events = new int[MOST_ENTRIES];
            years = new int[MOST_ENTRIES];
            size = 0;
            struckBits = 0;
        }

        void empty() {
            size = 0;
            struckBits = 0;
        }

        void copy(House other) {
            for (int k = 0; k < MOST_ENTRIES; k++) {
                events[k] = other.events[k];
                years[k] = other.years[k];
            }
            size = other.size;
            struckBits = other.struckBits;
        }

        boolean add(int e, int year) {
            if (size >= MOST_ENTRIES) {
                return false;
            }
            events[size] = e;
            years[size] = year;
            size++;
            return true;
        }

        boolean isStruck(int k) {
            return (struckBits >> k & 1) != 0;
        }

        void turn(int k) {
            struckBits ^= 1 << k;
        }

        /** Struck neighbours bind too: they may come back, and years must not fall then. */
        boolean mayTell(int k, int year) {
            boolean behindLast = k <= 0 || year >= years[k - 1];
            boolean aheadOfNext = k + 1 >= size || year <= years[k + 1];
            return behindLast && aheadOfNext;
        }

        int entriesLeft() {
            return size - Integer.bitCount(struckBits);
        }

        int eventBits() {
            int bits = 0;
            for (int k = 0; k < size; k++) {
                if (!isStruck(k)) {
                    bits |= 1 << events[k];
                }
            }
            return bits;
        }

        /** The number of the entry of an event, -1 if there is none that counts. */
        int placeOf(int e) {
            for (int k = 0; k < size; k++) {
                if (events[k] == e && !isStruck(k)) {
                    return k;
                }
            }
            return -1;
        }
    }

    /** All houses and the slack: what a text tells and what an image keeps. */
    private static final class Chronicle {
        final House[] all;
        int size;
        int slack;

        Chronicle() {
            all = new House[MOST_HOUSES];
            for (int i = 0; i < MOST_HOUSES; i++) {
                all[i] = new House();
            }
            size = 0;
            slack = 0;
        }

        void empty() {
            for (int i = 0; i < MOST_HOUSES; i++) {
                all[i].empty();
            }
            size = 0;
            slack = 0;
        }

        void copy(Chronicle other) {
            for (int i = 0; i < MOST_HOUSES; i++) {
                all[i].copy(other.all[i]);
            }
            size = other.size;
            slack = other.slack;
        }

        boolean hasHouse(int house) {
            return house >= 0 && house < size;
        }

        boolean hasEntry(int house, int k) {
            return hasHouse(house) && k >= 0 && k < all[house].size;
        }

        /** The house told last; the first one's row, if there is none. */
        House latest() {
            return all[size > 0 ? size - 1 : 0];
        }

        int entriesLeft() {
            int left = 0;
            for (int i = 0; i < size; i++) {
                left += all[i].entriesLeft();
            }
            return left;
        }

        int eventBits() {
            int bits = 0;
            for (int i = 0; i < size; i++) {
                bits |= all[i].eventBits();
            }
            return bits;
        }

        int housesThatHave(int e) {
            int bits = 0;
            for (int i = 0; i < size; i++) {
                if (all[i].placeOf(e) >= 0) {
                    bits |= 1 << i;
                }
            }
            return bits;
        }
    }

    /** The text and its reading, token by token: the place of one that can't stand is the fault. */
    private static final class Reader {
        static final int END = 0, SLACK_SIGN = 1, HOUSE_SIGN = 2, EVENT = 3, NUMBER = 4, STOP = 5, WRONG = 6;
        static final int AT_ITEM = 0, AT_SLACK = 1, AT_ENTRY = 2, AT_YEAR = 3, AT_STOP = 4;

        int size;
        private final int[] letters;
        private int at;
        private int token;
        private int place;
        private int value;
        private int state;
        private int items;
        private int eventTold;
        private boolean slackTold;

        Reader() {
            letters = new int[MOST_LETTERS];
            size = 0;
        }

        boolean put(int letter) {
            if (size >= MOST_LETTERS) {
                return false;
            }
            letters[size] = letter;
            size++;
            return true;
        }

        /** How many items there are, or FAULT_BASE less the fault. */
        int read(Chronicle into) {
            into.empty();
            at = 0;
            state = AT_ITEM;
            items = 0;
            slackTold = false;
            advance();
            // A token has a letter at least, so there are no more of them than letters.
            for (int i = 0; i < MOST_LETTERS && token != END; i++) {
                if (!take(into)) {
                    return FAULT_BASE - place;
                }
                advance();
            }
            return state == AT_ITEM ? items : FAULT_BASE - place;
        }

        /** Takes the token, and answers whether it can stand there. */
        private boolean take(Chronicle into) {
            switch (state) {
                case AT_ITEM:
                    return token == SLACK_SIGN ? takeSlackSign() : takeHouseSign(into);
                case AT_SLACK:
                    return takeSlack(into);
                case AT_ENTRY:
                    return token == STOP ? takeStop() : takeEvent(into);
                case AT_YEAR:
                    return takeYear(into);
                default:
                    return takeStop();
            }
        }

        private boolean takeSlackSign() {
            boolean fits = !slackTold;
            slackTold = true;
            state = AT_SLACK;
            return fits;
        }

        private boolean takeSlack(Chronicle into) {
            into.slack = value;
            state = AT_STOP;
            return token == NUMBER && value <= MOST_SLACK;
        }

        private boolean takeHouseSign(Chronicle into) {
            if (token != HOUSE_SIGN || into.size >= MOST_HOUSES) {
                return false;
            }
            into.size++;
            state = AT_ENTRY;
            return true;
        }

        private boolean takeEvent(Chronicle into) {
            House house = into.latest();
            eventTold = value;
            state = AT_YEAR;
            return token == EVENT && house.size < MOST_ENTRIES && house.placeOf(value) < 0;
        }

        private boolean takeYear(Chronicle into) {
            House house = into.latest();
            state = AT_ENTRY;
            return token == NUMBER && house.mayTell(house.size, value) && house.add(eventTold, value);
        }

        private boolean takeStop() {
            items++;
            state = AT_ITEM;
            return token == STOP;
        }

        private void advance() {
            while (at < size && letters[at] == ' ') {
                at++;
            }
            place = at;
            if (at >= size) {
                token = END;
                return;
            }
            int letter = letters[at];
            if (isFigure(letter)) {
                takeNumber();
                return;
            }
            at++;
            token = signOf(letter);
            value = letter - 'a';
        }

        private static boolean isFigure(int letter) {
            return letter >= '0' && letter <= '9';
        }

        private static int signOf(int letter) {
            if (letter >= 'a' && letter < 'a' + EVENTS) {
                return EVENT;
            }
            switch (letter) {
                case 's':
                    return SLACK_SIGN;
                case 'q':
                    return HOUSE_SIGN;
                case ';':
                    return STOP;
                default:
                    return WRONG;
            }
        }

        /** More than two figures are above 99 or have a 0 ahead, so the value can't run over. */
        private void takeNumber() {
            int first = letters[at];
            int figures = 0;
            value = 0;
            while (at < size && isFigure(letters[at])) {
                if (figures < 2) {
                    value = 10 * value + letters[at] - '0';
                }
                figures++;
                at++;
            }
            boolean wrong = figures > 2 || figures == 2 && first == '0';
            token = wrong ? WRONG : NUMBER;
        }
    }

    /** What was done lately, the latest last. */
    private static final class Deeds {
        static final int STRIKE = 0, TELL = 1, SLACK = 2;

        int size;
        private final int[] kinds;
        private final int[] places;
        private final int[] entries;
        private final int[] olds;

        Deeds() {
            size = 0;
            kinds = new int[MOST_DEEDS];
            places = new int[MOST_DEEDS];
            entries = new int[MOST_DEEDS];
            olds = new int[MOST_DEEDS];
        }

        void add(int kind, int house, int k, int old) {
            if (size >= MOST_DEEDS) {
                loseOldest();
            }
            kinds[size] = kind;
            places[size] = house;
            entries[size] = k;
            olds[size] = old;
            size++;
        }

        private void loseOldest() {
            for (int i = 1; i < MOST_DEEDS; i++) {
                kinds[i - 1] = kinds[i];
                places[i - 1] = places[i];
                entries[i - 1] = entries[i];
                olds[i - 1] = olds[i];
            }
            size = MOST_DEEDS - 1;
        }

        void takeBack(Chronicle from) {
            if (size <= 0) {
                return;
            }
            size--;
            int house = places[size];
            int k = entries[size];
            if (kinds[size] == SLACK) {
                from.slack = olds[size];
            } else if (from.hasEntry(house, k)) {
                takeBackEntry(from.all[house], k);
            }
        }

        private void takeBackEntry(House house, int k) {
            if (kinds[size] == STRIKE) {
                house.turn(k);
            } else {
                house.years[k] = olds[size];
            }
        }
    }

    /** The common events of two houses with their offsets, in the order of the first. */
    private static final class Pair {
        final int[] events;
        final int[] offsets;
        int size;

        Pair() {
            events = new int[MOST_ENTRIES];
            offsets = new int[MOST_ENTRIES];
            size = 0;
        }

        void join(House p, House q) {
            size = 0;
            for (int k = 0; k < p.size; k++) {
                int there = p.isStruck(k) ? -1 : q.placeOf(p.events[k]);
                if (there >= 0) {
                    events[size] = p.events[k];
                    offsets[size] = q.years[there] - p.years[k];
                    size++;
                }
            }
        }

        /** The place behind the span that starts at a place. */
        int spanEnd(int from, int slack) {
            int least = offsets[from];
            int greatest = offsets[from];
            for (int i = from + 1; i < size; i++) {
                least = Math.min(least, offsets[i]);
                greatest = Math.max(greatest, offsets[i]);
                if (greatest - least > slack) {
                    return i;
                }
            }
            return size;
        }

        int spans(int slack) {
            int found = 0;
            int at = 0;
            while (at < size && found < MOST_ENTRIES) {
                at = spanEnd(at, slack);
                found++;
            }
            return found;
        }

        /** The place where the k-th span starts; the size, if there is none. */
        int spanStart(int k, int slack) {
            int at = 0;
            for (int i = 0; i < k && at < size; i++) {
                at = spanEnd(at, slack);
            }
            return at;
        }

        int leastOffset(int from, int to) {
            int least = offsets[from];
            for (int i = from + 1; i < to; i++) {
                least = Math.min(least, offsets[i]);
            }
            return least;
        }

        int commonestOffset() {
            int best = 0;
            int bestVotes = 0;
            for (int i = 0; i < size; i++) {
                int votes = Integer.bitCount(eventsWith(offsets[i]));
                if (votes > bestVotes || votes == bestVotes && isNearer(offsets[i], best)) {
                    best = offsets[i];
                    bestVotes = votes;
                }
            }
            return best;
        }

        private static boolean isNearer(int a, int b) {
            int farther = Math.abs(a) - Math.abs(b);
            return farther < 0 || farther == 0 && a < b;
        }

        int eventsWith(int offset) {
            int bits = 0;
            for (int i = 0; i < size; i++) {
                if (offsets[i] == offset) {
                    bits |= 1 << events[i];
                }
            }
            return bits;
        }

        int eventBits() {
            int bits = 0;
            for (int i = 0; i < size; i++) {
                bits |= 1 << events[i];
            }
            return bits;
        }
    }

    /** Which event is ahead of which, and the chains, as houses told to it say. */
    private static final class Order {
        final int[] ahead;
        final int[] chains;

        Order() {
            ahead = new int[EVENTS];
            chains = new int[EVENTS];
        }

        /** The houses of the bits leftOut are not asked. */
        void look(Chronicle from, int leftOut) {
            empty();
            for (int i = 0; i < from.size; i++) {
                if ((leftOut >> i & 1) == 0) {
                    ask(from.all[i], from.all[i].struckBits);
                }
            }
            chain();
        }

        /** All houses are asked, as if one more entry was struck. */
        void lookStruck(Chronicle from, int house, int k) {
            empty();
            for (int i = 0; i < from.size; i++) {
                int more = i == house ? 1 << k : 0;
                ask(from.all[i], from.all[i].struckBits | more);
            }
            chain();
        }

        private void empty() {
            for (int e = 0; e < EVENTS; e++) {
                ahead[e] = 0;
            }
        }

        /** Years never fall within a house, so only entries behind can be later. */
        private void ask(House house, int struckBits) {
            for (int i = 0; i < house.size; i++) {
                for (int j = i + 1; j < house.size; j++) {
                    boolean both = ((struckBits >> i | struckBits >> j) & 1) == 0;
                    if (both && house.years[i] < house.years[j]) {
                        ahead[house.events[i]] |= 1 << house.events[j];
                    }
                }
            }
        }

        private void chain() {
            for (int e = 0; e < EVENTS; e++) {
                chains[e] = ahead[e];
            }
            for (int via = 0; via < EVENTS; via++) {
                for (int e = 0; e < EVENTS; e++) {
                    if ((chains[e] >> via & 1) != 0) {
                        chains[e] |= chains[via];
                    }
                }
            }
        }

        int knots() {
            int bits = 0;
            for (int e = 0; e < EVENTS; e++) {
                bits |= chains[e] & 1 << e;
            }
            return bits;
        }

        /** The k-th of the line of these events, if there are no knots. */
        int inLine(int events, int k) {
            int left = events;
            for (int i = 0; i < EVENTS && left != 0; i++) {
                int next = lowestFree(left);
                if (next < 0) {
                    return NONE;
                }
                if (i == k) {
                    return next;
                }
                left &= ~(1 << next);
            }
            return NONE;
        }

        private int lowestFree(int left) {
            int held = 0;
            for (int e = 0; e < EVENTS; e++) {
                if ((left >> e & 1) != 0) {
                    held |= ahead[e];
                }
            }
            int free = left & ~held;
            for (int e = 0; e < EVENTS; e++) {
                if ((free >> e & 1) != 0) {
                    return e;
                }
            }
            return -1;
        }
    }
}
