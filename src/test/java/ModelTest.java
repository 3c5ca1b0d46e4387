import java.util.ArrayList;
import java.util.Arrays;
import java.util.List;
import java.util.Random;
import java.util.TreeSet;

/** Runs of 512 calls, from fixed seeds, on the class and on a slow model that follows the document word by word. */
public final class ModelTest {
    private static final int RUNS = 1000;
    private static final int CALLS = 512;
    // Some runs keep these of their calls, as what comes after the 512th is not promised, to look at the pages.
    private static final int LAST_LOOKS = 112;
    private static final int LAST_VERSION = 1000000;
    private static final int[] ODD = {-2, -1, 1000, 6, Integer.MIN_VALUE, Integer.MAX_VALUE, LAST_VERSION, LAST_VERSION + 1};

    public static void main(String[] args) {
        int wrong = 0;
        for (int seed = 0; seed < RUNS && wrong < 5; seed++) {
            wrong += new Run(seed).answersWrong();
        }
        System.out.println(wrong == 0 ? "all answers are as due" : wrong + " runs are not as due");
        if (wrong != 0) {
            System.exit(1);
        }
    }

    private static final class Event {
        final int[] triple;
        final int version;
        final boolean came;

        Event(int[] triple, int version, boolean came) {
            this.triple = triple;
            this.version = version;
            this.came = came;
        }
    }

    private static final class Lead {
        final int order;
        final int a;
        final int b;

        Lead(int order, int a, int b) {
            this.order = order;
            this.a = a;
            this.b = b;
        }

        boolean has(int[] inOrder) {
            return (a == -1 || inOrder[0] == a) && (b == -1 || inOrder[1] == b);
        }

        int free(int[] inOrder) {
            return a == -1 ? inOrder[0] : b == -1 ? inOrder[1] : inOrder[2];
        }
    }

    private static final class Model {
        private static final String[] NAMES = {"spo", "sop", "pso", "pos", "osp", "ops"};
        final int room;
        List<Event> log = new ArrayList<>();
        int latestCut = -1;
        List<Lead> leads = new ArrayList<>();
        List<int[]> hand = new ArrayList<>();
        Lead handRange = new Lead(0, -1, -1);
        List<Integer> numbers = new ArrayList<>();
        List<List<List<int[]>>> pages = new ArrayList<>();
        int nowWithoutCut = 0;

        Model(int rows) {
            room = rows < 1 ? 1 : rows > 400 ? 400 : rows;
            for (int order = 0; order < 6; order++) {
                pages.add(new ArrayList<>());
            }
        }

        static int[] inOrder(int order, int[] triple) {
            int[] terms = new int[3];
            for (int i = 0; i < 3; i++) {
                terms[i] = triple["spo".indexOf(NAMES[order].charAt(i))];
            }
            return terms;
        }

        static boolean term(int t) {
            return 0 <= t && t <= 999;
        }

        static boolean termOrAny(int t) {
            return t == -1 || term(t);
        }

        static boolean version(int v) {
            return 0 <= v && v <= LAST_VERSION;
        }

        static boolean order(int order) {
            return 0 <= order && order <= 5;
        }

        int now() {
            return Math.max(nowWithoutCut, latestCut);
        }

        boolean there(int[] triple, int version) {
            boolean there = false;
            for (Event e : log) {
                if (e.version <= version && Arrays.equals(e.triple, triple)) {
                    there = e.came;
                }
            }
            return there;
        }

        List<int[]> triplesThere(int version) {
            TreeSet<int[]> all = new TreeSet<>(Arrays::compare);
            for (Event e : log) {
                if (there(e.triple, version)) {
                    all.add(e.triple);
                }
            }
            return new ArrayList<>(all);
        }

        List<int[]> inRange(Lead range, int version) {
            List<int[]> list = new ArrayList<>();
            for (int[] triple : triplesThere(version)) {
                if (range.has(inOrder(range.order, triple))) {
                    list.add(inOrder(range.order, triple));
                }
            }
            list.sort(Arrays::compare);
            return list;
        }

        int event(int s, int p, int o, int version, boolean comes) {
            if (!term(s) || !term(p) || !term(o) || !version(version)) {
                return -2;
            }
            if (version < now()) {
                return -3;
            }
            int[] triple = {s, p, o};
            if (there(triple, version) == comes) {
                return 0;
            }
            if (log.size() >= room) {
                return -4;
            }
            log.add(new Event(triple, version, comes));
            nowWithoutCut = version;
            for (int order = 0; order < 6; order++) {
                if (comes) {
                    comesToPage(pages.get(order), inOrder(order, triple));
                } else {
                    leavesPage(pages.get(order), inOrder(order, triple));
                }
            }
            return 1;
        }

        static void comesToPage(List<List<int[]>> row, int[] terms) {
            if (row.isEmpty()) {
                row.add(new ArrayList<>());
            }
            List<int[]> page = row.get(0);
            for (List<int[]> p : row) {
                if (!p.isEmpty() && Arrays.compare(p.get(0), terms) <= 0) {
                    page = p;
                }
            }
            page.add(terms);
            page.sort(Arrays::compare);
            if (page.size() == 17) {
                List<int[]> behind = new ArrayList<>(page.subList(9, 17));
                page.subList(9, 17).clear();
                row.add(row.indexOf(page) + 1, behind);
            }
        }

        static void leavesPage(List<List<int[]>> row, int[] terms) {
            for (int k = 0; k < row.size(); k++) {
                List<int[]> page = row.get(k);
                if (!page.removeIf(t -> Arrays.equals(t, terms))) {
                    continue;
                }
                if (page.isEmpty()) {
                    row.remove(k);
                } else if (k + 1 < row.size() && page.size() + row.get(k + 1).size() <= 10) {
                    page.addAll(row.remove(k + 1));
                } else if (k > 0 && row.get(k - 1).size() + page.size() <= 10) {
                    row.get(k - 1).addAll(row.remove(k));
                }
                return;
            }
        }

        int range(int order, int a, int b, int version) {
            if (!order(order) || !termOrAny(a) || !termOrAny(b) || !version(version)) {
                return -2;
            }
            if (version < latestCut || a == -1 && b != -1) {
                return -3;
            }
            handRange = new Lead(order, a, b);
            hand = inRange(handRange, version);
            return hand.size();
        }

        int at(int i, int what) {
            if (what < 0 || what > 2) {
                return -2;
            }
            if (i < 0 || i >= hand.size()) {
                return -1;
            }
            return hand.get(i)[NAMES[handRange.order].indexOf("spo".charAt(what))];
        }

        int seek(int v) {
            for (int i = 0; i < hand.size(); i++) {
                if (handRange.free(hand.get(i)) >= v) {
                    return i;
                }
            }
            return hand.size();
        }

        long ofFirst(int order, int a, int version, boolean sums) {
            if (!order(order) || !term(a) || !version(version)) {
                return -2;
            }
            if (version < latestCut) {
                return -3;
            }
            long sum = 0;
            TreeSet<Integer> seconds = new TreeSet<>();
            for (int[] terms : inRange(new Lead(order, a, -1), version)) {
                sum += terms[2];
                seconds.add(terms[1]);
            }
            return sums ? sum : seconds.size();
        }

        int lead(int order, int a, int b) {
            if (!order(order) || !termOrAny(a) || !termOrAny(b)) {
                return -2;
            }
            if (a == -1 && b != -1) {
                return -3;
            }
            if (leads.size() == 4) {
                return -4;
            }
            leads.add(new Lead(order, a, b));
            return leads.size();
        }

        int leap(int version) {
            if (!version(version)) {
                return -2;
            }
            if (version < latestCut) {
                return -3;
            }
            TreeSet<Integer> all = null;
            for (Lead lead : leads) {
                TreeSet<Integer> free = new TreeSet<>();
                for (int[] terms : inRange(lead, version)) {
                    free.add(lead.free(terms));
                }
                if (all == null) {
                    all = free;
                }
                all.retainAll(free);
            }
            numbers = all == null ? new ArrayList<>() : new ArrayList<>(all);
            leads.clear();
            return numbers.size();
        }

        int found(int i) {
            return i < 0 || i >= numbers.size() ? -1 : numbers.get(i);
        }

        int cut(int version) {
            if (!version(version)) {
                return -2;
            }
            if (version < latestCut) {
                return -3;
            }
            List<Event> kept = new ArrayList<>();
            for (int i = 0; i < log.size(); i++) {
                Event e = log.get(i);
                boolean latest = true;
                for (int j = i + 1; j < log.size(); j++) {
                    latest &= log.get(j).version > version || !Arrays.equals(log.get(j).triple, e.triple);
                }
                if (e.version > version || latest && e.came) {
                    kept.add(e);
                }
            }
            int gone = log.size() - kept.size();
            log = kept;
            latestCut = version;
            return gone;
        }

        int pages(int order) {
            return order(order) ? pages.get(order).size() : -2;
        }

        int page(int order, int k, int what) {
            if (!order(order) || what < 0 || what > 3) {
                return -2;
            }
            if (k < 0 || k >= pages(order)) {
                return -1;
            }
            List<int[]> page = pages.get(order).get(k);
            return what == 0 ? page.size() : page.get(0)[what - 1];
        }

        int mark(int order, int k) {
            if (!order(order) || k < 0 || k >= pages(order)) {
                return 0;
            }
            int m = 0;
            for (int[] terms : pages.get(order).get(k)) {
                for (int term : terms) {
                    m = Integer.rotateLeft(m ^ term, 11) * 0x85EBCA77;
                }
            }
            return m;
        }

        int count(int what) {
            switch (what) {
                case 0: return triplesThere(now()).size();
                case 1: return log.size();
                case 2: return leads.size();
                case 3: return now();
                case 4: return latestCut;
                default: return -2;
            }
        }

        void clear() {
            Model fresh = new Model(room);
            log = fresh.log;
            latestCut = fresh.latestCut;
            leads = fresh.leads;
            hand = fresh.hand;
            handRange = fresh.handRange;
            numbers = fresh.numbers;
            pages = fresh.pages;
            nowWithoutCut = fresh.nowWithoutCut;
        }
    }

    private static final class Run {
        private final Random random;
        private final int seed;
        private final int rows;
        private final int span;
        private int growing;
        private final int changing;
        private final int start;
        private final TripleOrders x;
        private final Model model;
        private String call = "";

        Run(int seed) {
            this.seed = seed;
            random = new Random(seed);
            int[] sizes = {400, 400, 60, 200, 3, 500, 0, 25};
            rows = sizes[seed % sizes.length];
            int[] spans = {3, 5, 8, 30, 1000};
            span = spans[random.nextInt(spans.length)];
            growing = 40 + random.nextInt(56);
            changing = 30 + random.nextInt(60);
            start = random.nextInt(4) == 0 ? LAST_VERSION - random.nextInt(60) : 0;
            x = new TripleOrders(rows);
            model = new Model(rows);
        }

        /** 1 if an answer was wrong, else 0; the run ends there. */
        int answersWrong() {
            boolean looks = random.nextBoolean();
            int calls = looks ? CALLS - LAST_LOOKS : CALLS;
            for (int i = 0; i < calls; i++) {
                // Only a row of many pages that shrinks has small pages side by side.
                if (i == CALLS / 2 && random.nextBoolean()) {
                    growing = 8;
                }
                long[] both = random.nextInt(100) < changing ? change() : ask();
                if (both[0] != both[1]) {
                    System.out.println("seed " + seed + ", rows " + rows + ", call " + i + ": " + call
                        + " answered " + both[0] + ", due is " + both[1]);
                    return 1;
                }
            }
            return !looks || samePages() ? 0 : 1;
        }

        private boolean samePages() {
            int looks = 0;
            for (int n = 0; n < 6; n++) {
                int order = (seed + n) % 6;
                for (int k = 0; k <= model.pages(order) && looks + 2 <= LAST_LOOKS; k++) {
                    looks += 2;
                    if (x.page(order, k, 0) != model.page(order, k, 0) || x.mark(order, k) != model.mark(order, k)) {
                        System.out.println("seed " + seed + ": page " + k + " of order " + order);
                        return false;
                    }
                }
            }
            return true;
        }

        private boolean rarely() {
            return random.nextInt(60) == 0;
        }

        private int odd() {
            return ODD[random.nextInt(ODD.length)];
        }

        private int term() {
            return rarely() ? odd() : random.nextInt(span) * (span == 3 ? 499 : 1);
        }

        private int termOrAny() {
            return random.nextInt(3) == 0 ? -1 : term();
        }

        private int order() {
            return rarely() ? odd() : random.nextInt(6);
        }

        private int newVersion() {
            if (rarely()) {
                return random.nextBoolean() ? notFarAhead(odd()) : model.now() - 1;
            }
            return Math.max(model.now(), start) + (random.nextInt(3) == 0 ? random.nextInt(3) : 0);
        }

        /** A run that begins at version 0 is not to leap to the last one, where no more versions follow. */
        private int notFarAhead(int version) {
            return start == 0 && version >= 1000 && version <= LAST_VERSION ? -1 : version;
        }

        private int oldVersion() {
            if (rarely()) {
                return odd();
            }
            int lowest = Math.max(0, start - 3);
            return lowest + random.nextInt(Math.max(model.now(), start) - lowest + 5);
        }

        private long[] both(String name, long got, long want) {
            call = name;
            return new long[] {got, want};
        }

        private long[] change() {
            int kind = random.nextInt(1000);
            if (kind < 3) {
                x.clear();
                model.clear();
                return both("clear()", 0, 0);
            }
            if (kind < 20) {
                int version = notFarAhead(random.nextBoolean() ? oldVersion() : model.latestCut + random.nextInt(8));
                return both("cut(" + version + ")", x.cut(version), model.cut(version));
            }
            int version = newVersion();
            if (random.nextInt(100) < growing) {
                int s = term();
                int p = term();
                int o = term();
                return both("add(" + s + ", " + p + ", " + o + ", " + version + ")",
                    x.add(s, p, o, version), model.event(s, p, o, version, true));
            }
            int[] t = {term(), term(), term()};
            List<int[]> there = model.triplesThere(model.now());
            if (!there.isEmpty() && random.nextInt(8) != 0) {
                t = there.get(random.nextInt(there.size()));
            }
            return both("remove(" + t[0] + ", " + t[1] + ", " + t[2] + ", " + version + ")",
                x.remove(t[0], t[1], t[2], version), model.event(t[0], t[1], t[2], version, false));
        }

        private long[] ask() {
            int i = rarely() ? odd() : random.nextInt(12);
            int what = rarely() ? odd() : random.nextInt(5);
            int order = order();
            int version = oldVersion();
            int a = termOrAny();
            int b = a == -1 && random.nextInt(10) != 0 ? -1 : termOrAny();
            switch (random.nextInt(13)) {
                case 0:
                    return both("range(" + order + ", " + a + ", " + b + ", " + version + ")",
                        x.range(order, a, b, version), model.range(order, a, b, version));
                case 1:
                case 2:
                    return both("at(" + i + ", " + what + ")", x.at(i, what), model.at(i, what));
                case 3:
                    return both("seek(" + a + ")", x.seek(a), model.seek(a));
                case 4:
                    return both("seconds(" + order + ", " + a + ", " + version + ")",
                        x.seconds(order, a, version), model.ofFirst(order, a, version, false));
                case 5:
                    return both("sum(" + order + ", " + a + ", " + version + ")",
                        x.sum(order, a, version), model.ofFirst(order, a, version, true));
                case 6:
                    return both("lead(" + order + ", " + a + ", " + b + ")", x.lead(order, a, b), model.lead(order, a, b));
                case 7:
                    return both("leap(" + version + ")", x.leap(version), model.leap(version));
                case 8:
                    return both("found(" + i + ")", x.found(i), model.found(i));
                case 9:
                    return both("pages(" + order + ")", x.pages(order), model.pages(order));
                case 10:
                    return both("page(" + order + ", " + i + ", " + what + ")",
                        x.page(order, i, what), model.page(order, i, what));
                case 11:
                    return both("mark(" + order + ", " + i + ")", x.mark(order, i), model.mark(order, i));
                default:
                    return both("count(" + what + ")", x.count(what), model.count(what));
            }
        }
    }
}
