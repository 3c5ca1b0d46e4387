import java.util.Arrays;

/**
 * Triples of numbers in six orders of pages, added and taken out by versions
 * and asked as they were at any version.
 */
public final class TripleOrders {
    public static final int NONE = -1;

    private static final int OUTSIDE = -2;
    private static final int NOT_IN_STATE = -3;
    private static final int NO_ROOM = -4;

    private static final int ANY = -1;
    private static final int TERMS = 1000;
    private static final int LAST_VERSION = 1000000;
    private static final int ORDERS = 6;
    private static final int MOST_ROWS = 400;
    private static final int MOST_LEADS = 4;

    // A key holds a triple's terms in an order as digits, so that keys rise as the triples of the order do.
    private static final int FIRST_UNIT = 1000000;
    private static final int SECOND_UNIT = 1000;

    // For each order: which term (0 s, 1 p, 2 o) stands at its first, second and third place.
    private static final int[] TERM_AT = {0, 1, 2, 0, 2, 1, 1, 0, 2, 1, 2, 0, 2, 0, 1, 2, 1, 0};
    // For each order: the place at which s, p and o stand.
    private static final int[] PLACE_OF = {0, 1, 2, 0, 2, 1, 1, 0, 2, 2, 0, 1, 1, 2, 0, 2, 1, 0};

    private final Log log;
    private final PageRow[] pageRows;
    private final Row hand;
    private final Range handRange;
    private final Range asked;
    private final Range[] leads;
    private int leadCount;
    private final Row numbers;
    private final int[] tally;

    public TripleOrders(int rows) {
        int room = Math.max(1, Math.min(rows, MOST_ROWS));
        log = new Log(room);
        pageRows = new PageRow[ORDERS];
        for (int order = 0; order < ORDERS; order++) {
            pageRows[order] = new PageRow(room);
        }
        hand = new Row(room);
        handRange = new Range();
        asked = new Range();
        leads = new Range[MOST_LEADS];
        for (int i = 0; i < MOST_LEADS; i++) {
            leads[i] = new Range();
        }
        leadCount = 0;
        numbers = new Row(room);
        tally = new int[TERMS];
    }

    public int add(int s, int p, int o, int version) {
        int refusal = refusalOfChange(s, p, o, version);
        if (refusal != 0) {
            return refusal;
        }
        if (isThereNow(s, p, o)) {
            return 0;
        }
        if (log.isFull()) {
            return NO_ROOM;
        }
        log.writeComing(s, p, o, version);
        for (int order = 0; order < ORDERS; order++) {
            pageRows[order].putIn(keyOf(order, s, p, o));
        }
        return 1;
    }

    public int remove(int s, int p, int o, int version) {
        int refusal = refusalOfChange(s, p, o, version);
        if (refusal != 0) {
            return refusal;
        }
        if (!isThereNow(s, p, o)) {
            return 0;
        }
        if (log.isFull()) {
            return NO_ROOM;
        }
        log.writeGoing(s, p, o, version);
        for (int order = 0; order < ORDERS; order++) {
            pageRows[order].takeOut(keyOf(order, s, p, o));
        }
        return 1;
    }

    public int range(int order, int a, int b, int version) {
        if (!isRange(order, a, b) || !isVersion(version)) {
            return OUTSIDE;
        }
        if (version < log.latestCut || isSecondAlone(a, b)) {
            return NOT_IN_STATE;
        }
        handRange.tell(order, a, b);
        hand.empty();
        for (int event = 0; event < log.size; event++) {
            if (log.isThere(event, version) && handRange.covers(log, event)) {
                hand.putIn(log.keyOfEvent(order, event));
            }
        }
        return hand.size;
    }

    public int at(int i, int what) {
        if (what < 0 || what > 2) {
            return OUTSIDE;
        }
        int key = hand.key(i);
        return key == NONE ? NONE : termOfKey(key, PLACE_OF[handRange.order * 3 + what]);
    }

    public int seek(int v) {
        if (v >= TERMS) {
            return hand.size;
        }
        return hand.placeFor(handRange.lowestKey(Math.max(v, 0)));
    }

    public int seconds(int order, int a, int version) {
        int refusal = refusalOfFirst(order, a, version);
        if (refusal != 0) {
            return refusal;
        }
        asked.tell(order, a, ANY);
        Arrays.fill(tally, 0);
        tallyFreeTerms(asked, 0, version);
        return countTallied(1);
    }

    public long sum(int order, int a, int version) {
        int refusal = refusalOfFirst(order, a, version);
        if (refusal != 0) {
            return refusal;
        }
        asked.tell(order, a, ANY);
        long total = 0;
        for (int event = 0; event < log.size; event++) {
            if (log.isThere(event, version) && asked.covers(log, event)) {
                total += log.termAt(order, 2, event);
            }
        }
        return total;
    }

    public int lead(int order, int a, int b) {
        if (!isRange(order, a, b)) {
            return OUTSIDE;
        }
        if (isSecondAlone(a, b)) {
            return NOT_IN_STATE;
        }
        if (leadCount >= MOST_LEADS) {
            return NO_ROOM;
        }
        leads[leadCount].tell(order, a, b);
        leadCount++;
        return leadCount;
    }

    public int leap(int version) {
        if (!isVersion(version)) {
            return OUTSIDE;
        }
        if (version < log.latestCut) {
            return NOT_IN_STATE;
        }
        numbers.empty();
        if (leadCount == 0) {
            return 0;
        }
        Arrays.fill(tally, 0);
        for (int i = 0; i < leadCount; i++) {
            tallyFreeTerms(leads[i], i, version);
        }
        for (int term = 0; term < TERMS; term++) {
            if (tally[term] == leadCount) {
                numbers.putIn(term);
            }
        }
        leadCount = 0;
        return numbers.size;
    }

    public int found(int i) {
        return numbers.key(i);
    }

    public int cut(int version) {
        if (!isVersion(version)) {
            return OUTSIDE;
        }
        if (version < log.latestCut) {
            return NOT_IN_STATE;
        }
        return log.cutAt(version);
    }

    public int pages(int order) {
        return isOrder(order) ? pageRows[order].pageCount : OUTSIDE;
    }

    public int page(int order, int k, int what) {
        if (!isOrder(order) || what < 0 || what > 3) {
            return OUTSIDE;
        }
        PageRow row = pageRows[order];
        if (!row.hasPage(k)) {
            return NONE;
        }
        return what == 0 ? row.lengthOf(k) : termOfKey(row.firstKey(k), what - 1);
    }

    public int mark(int order, int k) {
        return isOrder(order) ? pageRows[order].markOf(k) : 0;
    }

    public int count(int what) {
        switch (what) {
            case 0:
                return pageRows[0].triples.size;
            case 1:
                return log.size;
            case 2:
                return leadCount;
            case 3:
                return log.now;
            case 4:
                return log.latestCut;
            default:
                return OUTSIDE;
        }
    }

    public void clear() {
        log.empty();
        for (int order = 0; order < ORDERS; order++) {
            pageRows[order].empty();
        }
        hand.empty();
        numbers.empty();
        leadCount = 0;
    }

    private boolean isThereNow(int s, int p, int o) {
        return pageRows[0].triples.has(keyOf(0, s, p, o));
    }

    private int refusalOfChange(int s, int p, int o, int version) {
        if (!isTriple(s, p, o) || !isVersion(version)) {
            return OUTSIDE;
        }
        return version < log.now ? NOT_IN_STATE : 0;
    }

    private int refusalOfFirst(int order, int a, int version) {
        if (!isOrder(order) || !isTerm(a) || !isVersion(version)) {
            return OUTSIDE;
        }
        return version < log.latestCut ? NOT_IN_STATE : 0;
    }

    /**
     * Raises from level to level + 1 the tally of each number that is a free term of the range:
     * of several ranges, called with rising levels, only what all have gets to the top.
     */
    private void tallyFreeTerms(Range range, int level, int version) {
        int place = range.freePlace();
        for (int event = 0; event < log.size; event++) {
            if (log.isThere(event, version) && range.covers(log, event)) {
                int term = log.termAt(range.order, place, event);
                if (isTerm(term) && tally[term] == level) {
                    tally[term] = level + 1;
                }
            }
        }
    }

    private int countTallied(int level) {
        int counted = 0;
        for (int term = 0; term < TERMS; term++) {
            if (tally[term] == level) {
                counted++;
            }
        }
        return counted;
    }

    private static boolean isOrder(int order) {
        return order >= 0 && order < ORDERS;
    }

    private static boolean isTerm(int term) {
        return term >= 0 && term < TERMS;
    }

    private static boolean isTriple(int s, int p, int o) {
        return isTerm(s) && isTerm(p) && isTerm(o);
    }

    private static boolean isVersion(int version) {
        return version >= 0 && version <= LAST_VERSION;
    }

    private static boolean isRange(int order, int a, int b) {
        return isOrder(order) && (a == ANY || isTerm(a)) && (b == ANY || isTerm(b));
    }

    private static boolean isSecondAlone(int a, int b) {
        return a == ANY && b != ANY;
    }

    private static int pick(int term, int s, int p, int o) {
        return term == 0 ? s : term == 1 ? p : o;
    }

    private static int keyOf(int order, int s, int p, int o) {
        if (!isOrder(order)) {
            return NONE;
        }
        return pick(TERM_AT[order * 3], s, p, o) * FIRST_UNIT
            + pick(TERM_AT[order * 3 + 1], s, p, o) * SECOND_UNIT
            + pick(TERM_AT[order * 3 + 2], s, p, o);
    }

    private static int termOfKey(int key, int place) {
        if (place == 0) {
            return key / FIRST_UNIT;
        }
        return place == 1 ? key / SECOND_UNIT % TERMS : key % TERMS;
    }

    /** A range of an order; which version it is asked at is told apart. */
    private static final class Range {
        int order = 0;
        int a = ANY;
        int b = ANY;

        void tell(int newOrder, int newA, int newB) {
            order = newOrder;
            a = newA;
            b = newB;
        }

        boolean covers(Log log, int event) {
            return (a == ANY || log.termAt(order, 0, event) == a)
                && (b == ANY || log.termAt(order, 1, event) == b);
        }

        int freePlace() {
            if (a == ANY) {
                return 0;
            }
            return b == ANY ? 1 : 2;
        }

        /** The lowest key that a triple of the range with this free term could have. */
        int lowestKey(int free) {
            if (a == ANY) {
                return free * FIRST_UNIT;
            }
            if (b == ANY) {
                return a * FIRST_UNIT + free * SECOND_UNIT;
            }
            return a * FIRST_UNIT + b * SECOND_UNIT + free;
        }
    }

    /**
     * The events. A coming holds the version at which its triple goes again, and a going holds its own:
     * a triple is there from an event's version on and until its end, which for a going is never,
     * and an event is of no more use once its end is not above a cut.
     */
    private static final class Log {
        private static final int OPEN = LAST_VERSION + 1;

        private final int[][] terms;
        private final int[] versions;
        private final int[] ends;
        int size = 0;
        int now = 0;
        int latestCut = NONE;

        Log(int room) {
            terms = new int[3][room];
            versions = new int[room];
            ends = new int[room];
        }

        void empty() {
            size = 0;
            now = 0;
            latestCut = NONE;
        }

        boolean isFull() {
            return size >= versions.length;
        }

        boolean hasEvent(int event) {
            return event >= 0 && event < size;
        }

        boolean isThere(int event, int version) {
            return hasEvent(event) && versions[event] <= version && version < ends[event];
        }

        int termAt(int order, int place, int event) {
            if (!isOrder(order) || place < 0 || place > 2 || !hasEvent(event)) {
                return NONE;
            }
            return terms[TERM_AT[order * 3 + place]][event];
        }

        int keyOfEvent(int order, int event) {
            return hasEvent(event) ? keyOf(order, terms[0][event], terms[1][event], terms[2][event]) : NONE;
        }

        void writeComing(int s, int p, int o, int version) {
            write(s, p, o, version, OPEN);
        }

        void writeGoing(int s, int p, int o, int version) {
            for (int event = size - 1; event >= 0; event--) {
                if (ends[event] == OPEN && isOf(event, s, p, o)) {
                    ends[event] = version;
                    break;
                }
            }
            write(s, p, o, version, version);
        }

        private boolean isOf(int event, int s, int p, int o) {
            return terms[0][event] == s && terms[1][event] == p && terms[2][event] == o;
        }

        private void write(int s, int p, int o, int version, int end) {
            if (isFull()) {
                return;
            }
            terms[0][size] = s;
            terms[1][size] = p;
            terms[2][size] = o;
            versions[size] = version;
            ends[size] = end;
            size++;
            now = version;
        }

        int cutAt(int version) {
            int kept = 0;
            for (int event = 0; event < size; event++) {
                if (ends[event] > version) {
                    move(event, kept);
                    kept++;
                }
            }
            int gone = size - kept;
            size = kept;
            latestCut = version;
            now = Math.max(now, version);
            return gone;
        }

        private void move(int event, int to) {
            for (int term = 0; term < 3; term++) {
                terms[term][to] = terms[term][event];
            }
            versions[to] = versions[event];
            ends[to] = ends[event];
        }
    }

    /** Different numbers, rising. */
    private static final class Row {
        private final int[] keys;
        int size = 0;

        Row(int room) {
            keys = new int[room];
        }

        void empty() {
            size = 0;
        }

        int key(int i) {
            return i >= 0 && i < size ? keys[i] : NONE;
        }

        boolean has(int key) {
            int place = placeFor(key);
            return place < size && keys[place] == key;
        }

        /** Where the first number stands that is not below the key: the size, if there is none. */
        int placeFor(int key) {
            int low = 0;
            int high = size;
            while (low < high) {
                int middle = (low + high) >>> 1;
                if (keys[middle] < key) {
                    low = middle + 1;
                } else {
                    high = middle;
                }
            }
            return low;
        }

        void putIn(int key) {
            if (size >= keys.length) {
                return;
            }
            int place = placeFor(key);
            System.arraycopy(keys, place, keys, place + 1, size - place);
            keys[place] = key;
            size++;
        }

        void takeOutAt(int place) {
            if (place < 0 || place >= size) {
                return;
            }
            System.arraycopy(keys, place + 1, keys, place, size - place - 1);
            size--;
        }
    }

    /** The pages of an order: as all its triples stand in one row, a page is just how many of them it has. */
    private static final class PageRow {
        private static final int MOST_ON_PAGE = 16;
        private static final int STAY_AT_SPLIT = 9;
        private static final int MOST_TO_JOIN = 10;
        private static final int MARK_FACTOR = 0x85EBCA77;

        final Row triples;
        private final int[] lengths;
        int pageCount = 0;

        // There are never more pages than triples, since each page has one.
        PageRow(int room) {
            triples = new Row(room);
            lengths = new int[room];
        }

        void empty() {
            triples.empty();
            pageCount = 0;
        }

        boolean hasPage(int k) {
            return k >= 0 && k < pageCount;
        }

        int lengthOf(int k) {
            return hasPage(k) ? lengths[k] : 0;
        }

        int firstKey(int k) {
            return triples.key(startOf(k));
        }

        void putIn(int key) {
            if (pageCount == 0) {
                openPage(0, 0);
            }
            // The triple before the new one is on the last page whose first triple is not above it.
            int k = pageHolding(triples.placeFor(key) - 1);
            triples.putIn(key);
            if (!hasPage(k)) {
                return;
            }
            lengths[k]++;
            if (lengths[k] > MOST_ON_PAGE) {
                openPage(k + 1, lengths[k] - STAY_AT_SPLIT);
                lengths[k] = STAY_AT_SPLIT;
            }
        }

        void takeOut(int key) {
            if (!triples.has(key)) {
                return;
            }
            int place = triples.placeFor(key);
            int k = pageHolding(place);
            triples.takeOutAt(place);
            if (!hasPage(k)) {
                return;
            }
            lengths[k]--;
            if (lengths[k] == 0) {
                dropPage(k);
            } else if (canJoin(k)) {
                joinWithNext(k);
            } else if (canJoin(k - 1)) {
                joinWithNext(k - 1);
            }
        }

        int markOf(int k) {
            int start = startOf(k);
            int behind = start + lengthOf(k);
            int m = 0;
            for (int i = start; i < behind; i++) {
                int key = triples.key(i);
                for (int place = 0; place < 3; place++) {
                    int mixed = m ^ termOfKey(key, place);
                    m = (mixed << 11 | mixed >>> 21) * MARK_FACTOR;
                }
            }
            return m;
        }

        private int startOf(int k) {
            int start = 0;
            for (int i = 0; i < k && i < pageCount; i++) {
                start += lengths[i];
            }
            return start;
        }

        /** The page with the triple at a place; the first page for a place before all. */
        private int pageHolding(int place) {
            int behind = 0;
            for (int k = 0; k < pageCount; k++) {
                behind += lengths[k];
                if (place < behind) {
                    return k;
                }
            }
            return pageCount - 1;
        }

        private boolean canJoin(int k) {
            return hasPage(k) && hasPage(k + 1) && lengths[k] + lengths[k + 1] <= MOST_TO_JOIN;
        }

        private void joinWithNext(int k) {
            lengths[k] += lengths[k + 1];
            dropPage(k + 1);
        }

        private void openPage(int k, int length) {
            if (k < 0 || k > pageCount || pageCount >= lengths.length) {
                return;
            }
            System.arraycopy(lengths, k, lengths, k + 1, pageCount - k);
            lengths[k] = length;
            pageCount++;
        }

        private void dropPage(int k) {
            if (!hasPage(k)) {
                return;
            }
            System.arraycopy(lengths, k + 1, lengths, k, pageCount - k - 1);
            pageCount--;
        }
    }
}
