import java.util.ArrayList;
import java.util.List;

/**
 * Every refusal of the document: that the call answers as the document says, with the first refusal that fits,
 * and that it changes nothing. For the last, two objects are made by the same calls, one is refused something,
 * and then all that can be seen of the two must be the same.
 */
public final class RefusalTest {
    private static final int MAX = Integer.MAX_VALUE;
    private static final int MIN = Integer.MIN_VALUE;
    private static final int MOST_CALLS = 512;
    private static final int[] NO_ORDER = {-1, 6, MIN, MAX};
    private static final int[] NO_TERM = {-1, 1000, MIN, MAX};
    private static final int[] NEITHER_TERM_NOR_ANY = {-2, 1000, MIN, MAX};
    private static final int[] NO_VERSION = {-1, 1000001, MIN, MAX};
    private static int wrong = 0;

    private interface Maker {
        TripleOrders make();
    }

    private interface Call {
        long on(TripleOrders x);
    }

    private static void tell(String text) {
        wrong++;
        System.out.println(text);
    }

    public static void main(String[] args) {
        addAndRemove();
        addAndRemoveThatChangeNothing();
        range();
        at();
        seek();
        seconds();
        sum();
        lead();
        leap();
        found();
        cut();
        pages();
        page();
        mark();
        count();
        System.out.println(wrong == 0 ? "all refusals are as due" : wrong + " refusals are not as due");
        if (wrong != 0) {
            System.exit(1);
        }
    }

    /** Nothing has been called yet. */
    private static TripleOrders fresh() {
        return new TripleOrders(30);
    }

    /** Two pages in each order, events at 10 to 30, now 30, a cut at 20, triples at hand, numbers found, two leads. */
    private static TripleOrders busy() {
        TripleOrders x = new TripleOrders(30);
        for (int i = 0; i < 18; i++) {
            x.add(i, i % 5, 999 - i, 10 + i);
        }
        x.remove(0, 0, 999, 29);
        x.remove(17, 2, 982, 30);
        x.cut(20);
        x.lead(2, 1, -1);
        x.leap(25);
        x.range(3, 2, -1, 28);
        x.lead(0, -1, -1);
        x.lead(2, 3, -1);
        return x;
    }

    /** Four events in a room of four, now 7, no cut. */
    private static TripleOrders full() {
        TripleOrders x = new TripleOrders(4);
        x.add(5, 5, 5, 2);
        x.add(6, 6, 6, 3);
        x.remove(5, 5, 5, 7);
        x.add(999, 0, 999, 7);
        return x;
    }

    /** As busy(), but with as many leads as there can be. */
    private static TripleOrders led() {
        TripleOrders x = busy();
        x.lead(3, 3, -1);
        x.lead(4, -1, -1);
        return x;
    }

    /** No event, but a cut far above them all. */
    private static TripleOrders cutAlone() {
        TripleOrders x = new TripleOrders(3);
        x.cut(500);
        return x;
    }

    /** All that can be seen: first what asking does not change, then what is seen by changing it. */
    private static List<Long> seen(TripleOrders x) {
        List<Long> all = new ArrayList<>();
        for (int what = 0; what < 5; what++) {
            all.add((long) x.count(what));
        }
        seeHand(x, all);
        seeFound(x, all);
        for (int order = 0; order < 6; order++) {
            int pages = x.pages(order);
            all.add((long) pages);
            for (int k = 0; k < pages; k++) {
                all.add((long) x.page(order, k, 0));
                all.add((long) x.mark(order, k));
            }
        }
        int now = x.count(3);
        all.add((long) x.leap(now));
        seeFound(x, all);
        for (int version = Math.max(x.count(4), 0); version <= now && version < 32; version++) {
            all.add((long) x.range(0, -1, -1, version));
            all.add((long) x.at(0, 0));
            all.add(x.sum(2, 2, version));
        }
        seeLog(x, now, all);
        return all;
    }

    private static void seeHand(TripleOrders x, List<Long> all) {
        for (int i = 0; i < 8; i++) {
            for (int what = 0; what < 3; what++) {
                all.add((long) x.at(i, what));
            }
        }
        for (int v = 975; v <= 1000; v += 5) {
            all.add((long) x.seek(v));
        }
    }

    private static void seeFound(TripleOrders x, List<Long> all) {
        for (int i = 0; i < 8; i++) {
            all.add((long) x.found(i));
        }
    }

    /** What is left of the room, and what a cut takes. */
    private static void seeLog(TripleOrders x, int now, List<Long> all) {
        for (int i = 0; i < 32; i++) {
            all.add((long) x.add(300, 300, i, now));
        }
        all.add((long) x.cut(now));
        all.add((long) x.count(1));
    }

    private static void refused(String name, Maker maker, Call call, long want) {
        TripleOrders x = maker.make();
        long got = call.on(x);
        if (got != want) {
            tell(name + " answered " + got + ", due is " + want);
        }
        List<Long> after = seen(x);
        List<Long> due = seen(maker.make());
        if (!after.equals(due)) {
            tell(name + " changed something:\n  " + after + "\n  due is\n  " + due);
        }
        // What makes the object, the refused call and the looks that are not kept are fewer than 60 calls.
        if (due.size() + 60 > MOST_CALLS) {
            tell(name + " has too many calls to be promised");
        }
    }

    private static void everywhere(String name, Call call, long want) {
        refused(name + ", fresh", RefusalTest::fresh, call, want);
        refused(name + ", busy", RefusalTest::busy, call, want);
        refused(name + ", full", RefusalTest::full, call, want);
        refused(name + ", led", RefusalTest::led, call, want);
        refused(name + ", a cut alone", RefusalTest::cutAlone, call, want);
    }

    private static long change(TripleOrders x, boolean comes, int s, int p, int o, int version) {
        return comes ? x.add(s, p, o, version) : x.remove(s, p, o, version);
    }

    private static void addAndRemove() {
        for (boolean comes : new boolean[] {true, false}) {
            String name = comes ? "2: add" : "3: remove";
            for (int bad : NO_TERM) {
                everywhere(name + ", s " + bad, x -> change(x, comes, bad, 6, 6, 500), -2);
                everywhere(name + ", p " + bad, x -> change(x, comes, 6, bad, 6, 500), -2);
                everywhere(name + ", o " + bad, x -> change(x, comes, 6, 6, bad, 500), -2);
            }
            for (int bad : NO_VERSION) {
                everywhere(name + ", version " + bad, x -> change(x, comes, 6, 6, 6, bad), -2);
            }
            changeBelowNow(name, comes);
            changeFirstThatFits(name, comes);
        }
        refused("2: add, no room", RefusalTest::full, x -> x.add(7, 7, 7, 7), -4);
        refused("2: add, no room, later", RefusalTest::full, x -> x.add(7, 7, 7, 1000000), -4);
        refused("2: add, no room, what has gone", RefusalTest::full, x -> x.add(5, 5, 5, 7), -4);
        refused("3: remove, no room", RefusalTest::full, x -> x.remove(6, 6, 6, 7), -4);
        refused("3: remove, no room, later", RefusalTest::full, x -> x.remove(999, 0, 999, 1000000), -4);
    }

    private static void changeBelowNow(String name, boolean comes) {
        for (int version : new int[] {29, 20, 19, 0}) {
            refused(name + ", new, below now " + version, RefusalTest::busy,
                x -> change(x, comes, 1, 1, 1, version), -3);
            refused(name + ", there, below now " + version, RefusalTest::busy,
                x -> change(x, comes, 3, 3, 996, version), -3);
            refused(name + ", has gone, below now " + version, RefusalTest::busy,
                x -> change(x, comes, 0, 0, 999, version), -3);
        }
        refused(name + ", below a cut", RefusalTest::cutAlone, x -> change(x, comes, 1, 1, 1, 499), -3);
    }

    private static void changeFirstThatFits(String name, boolean comes) {
        refused(name + ", -2 of s before -3", RefusalTest::busy, x -> change(x, comes, 1000, 1, 1, 29), -2);
        refused(name + ", -2 of p before -3", RefusalTest::busy, x -> change(x, comes, 1, -1, 1, 29), -2);
        refused(name + ", -2 of o before -3", RefusalTest::busy, x -> change(x, comes, 1, 1, 1000, 29), -2);
        refused(name + ", -2 of the version before -3", RefusalTest::busy, x -> change(x, comes, 1, 1, 1, -1), -2);
        refused(name + ", -2 of a term before -4", RefusalTest::full, x -> change(x, comes, 6, 6, 1000, 7), -2);
        refused(name + ", -2 of the version before -4", RefusalTest::full,
            x -> change(x, comes, 6, 6, 6, 1000001), -2);
        refused(name + ", -2 before -3 and -4", RefusalTest::full, x -> change(x, comes, -1, 6, 6, 6), -2);
        refused(name + ", -3 before -4, there", RefusalTest::full, x -> change(x, comes, 6, 6, 6, 6), -3);
        refused(name + ", -3 before -4, not there", RefusalTest::full, x -> change(x, comes, 5, 5, 5, 6), -3);
    }

    /** 0 is no refusal, but nothing comes or goes, so nothing is written, and now stays. */
    private static void addAndRemoveThatChangeNothing() {
        for (int version : new int[] {30, 31, 1000000}) {
            refused("2: add, it was there, " + version, RefusalTest::busy, x -> x.add(3, 3, 996, version), 0);
            refused("3: remove, never there, " + version, RefusalTest::busy, x -> x.remove(3, 3, 3, version), 0);
            refused("3: remove, has gone, " + version, RefusalTest::busy, x -> x.remove(0, 0, 999, version), 0);
        }
        refused("2: -4 is of 1 alone", RefusalTest::full, x -> x.add(6, 6, 6, 7), 0);
        refused("3: -4 is of 1 alone, never there", RefusalTest::full, x -> x.remove(7, 7, 7, 7), 0);
        refused("3: -4 is of 1 alone, has gone", RefusalTest::full, x -> x.remove(5, 5, 5, 8), 0);
    }

    private static void range() {
        for (int bad : NO_ORDER) {
            everywhere("4: range, order " + bad, x -> x.range(bad, 1, 1, 500), -2);
        }
        for (int bad : NEITHER_TERM_NOR_ANY) {
            everywhere("4: range, a " + bad, x -> x.range(0, bad, 1, 500), -2);
            everywhere("4: range, a, b is any " + bad, x -> x.range(0, bad, -1, 500), -2);
            everywhere("4: range, b " + bad, x -> x.range(0, 1, bad, 500), -2);
            everywhere("4: range, -2 of b before -3, a is any " + bad, x -> x.range(0, -1, bad, 500), -2);
        }
        for (int bad : NO_VERSION) {
            everywhere("4: range, version " + bad, x -> x.range(0, 1, 1, bad), -2);
            everywhere("4: range, -2 before -3, b alone, version " + bad, x -> x.range(0, -1, 1, bad), -2);
        }
        for (int b : new int[] {0, 1, 999}) {
            everywhere("4: range, b alone " + b, x -> x.range(5, -1, b, 500), -3);
        }
        refused("4: range, below a cut", RefusalTest::busy, x -> x.range(0, -1, -1, 19), -3);
        refused("4: range, below a cut, 0", RefusalTest::busy, x -> x.range(0, 1, 1, 0), -3);
        refused("4: range, below a cut without events", RefusalTest::cutAlone, x -> x.range(0, -1, -1, 499), -3);
        refused("4: range, below a cut, b alone", RefusalTest::busy, x -> x.range(0, -1, 1, 19), -3);
        refused("4: range, -2 of order before -3", RefusalTest::busy, x -> x.range(6, 1, 1, 19), -2);
        refused("4: range, -2 of a before -3", RefusalTest::busy, x -> x.range(0, 1000, 1, 19), -2);
        refused("4: range, -2 of b before -3", RefusalTest::busy, x -> x.range(0, 1, 1000, 19), -2);
    }

    private static void at() {
        for (int bad : new int[] {-1, 3, MIN, MAX}) {
            everywhere("5: at, what " + bad, x -> x.at(0, bad), -2);
            everywhere("5: at, -2 before NONE, what " + bad, x -> x.at(-1, bad), -2);
            everywhere("5: at, -2 before NONE, behind, what " + bad, x -> x.at(MAX, bad), -2);
        }
        for (int none : new int[] {-1, MIN, 400, MAX}) {
            everywhere("5: at, none such " + none, x -> x.at(none, 2), TripleOrders.NONE);
        }
    }

    /** seek refuses nothing, whatever v is. */
    private static void seek() {
        for (int v : new int[] {MIN, -2, -1, 0}) {
            refused("6: seek, below all " + v, RefusalTest::busy, x -> x.seek(v), 0);
        }
        for (int v : new int[] {999, 1000, MAX}) {
            refused("6: seek, above all " + v, RefusalTest::busy, x -> x.seek(v) - x.range(3, 2, -1, 28), 0);
            refused("6: seek, nothing at hand " + v, RefusalTest::fresh, x -> x.seek(v), 0);
        }
    }

    private static void seconds() {
        for (int bad : NO_ORDER) {
            everywhere("7: seconds, order " + bad, x -> x.seconds(bad, 1, 500), -2);
        }
        for (int bad : NO_TERM) {
            everywhere("7: seconds, a " + bad, x -> x.seconds(0, bad, 500), -2);
        }
        for (int bad : NO_VERSION) {
            everywhere("7: seconds, version " + bad, x -> x.seconds(0, 1, bad), -2);
        }
        refused("7: seconds, below a cut", RefusalTest::busy, x -> x.seconds(2, 2, 19), -3);
        refused("7: seconds, below a cut without events", RefusalTest::cutAlone, x -> x.seconds(2, 2, 499), -3);
        refused("7: seconds, -2 of order before -3", RefusalTest::busy, x -> x.seconds(6, 2, 19), -2);
        refused("7: seconds, -2 of a before -3", RefusalTest::busy, x -> x.seconds(0, 1000, 19), -2);
        refused("7: seconds asked changes nothing", RefusalTest::led, x -> x.seconds(2, 2, 30), 3);
    }

    private static void sum() {
        for (int bad : NO_ORDER) {
            everywhere("8: sum, order " + bad, x -> x.sum(bad, 1, 500), -2);
        }
        for (int bad : NO_TERM) {
            everywhere("8: sum, a " + bad, x -> x.sum(0, bad, 500), -2);
        }
        for (int bad : NO_VERSION) {
            everywhere("8: sum, version " + bad, x -> x.sum(0, 1, bad), -2);
        }
        refused("8: sum, below a cut", RefusalTest::busy, x -> x.sum(2, 2, 19), -3);
        refused("8: sum, below a cut without events", RefusalTest::cutAlone, x -> x.sum(2, 2, 499), -3);
        refused("8: sum, -2 of order before -3", RefusalTest::busy, x -> x.sum(6, 2, 19), -2);
        refused("8: sum, -2 of a before -3", RefusalTest::busy, x -> x.sum(0, 1000, 19), -2);
        refused("8: sum asked changes nothing", RefusalTest::led, x -> x.sum(2, 2, 30), 997 + 992 + 987);
    }

    private static void lead() {
        for (int bad : NO_ORDER) {
            everywhere("9: lead, order " + bad, x -> x.lead(bad, 1, 1), -2);
        }
        for (int bad : NEITHER_TERM_NOR_ANY) {
            everywhere("9: lead, a " + bad, x -> x.lead(0, bad, 1), -2);
            everywhere("9: lead, a, b is any " + bad, x -> x.lead(0, bad, -1), -2);
            everywhere("9: lead, b " + bad, x -> x.lead(0, 1, bad), -2);
            everywhere("9: lead, -2 of b before -3, a is any " + bad, x -> x.lead(0, -1, bad), -2);
        }
        for (int b : new int[] {0, 1, 999}) {
            everywhere("9: lead, b alone, before -4 too " + b, x -> x.lead(5, -1, b), -3);
        }
        refused("9: lead, -2 of order before -3", RefusalTest::busy, x -> x.lead(6, -1, 1), -2);
        refused("9: lead, a fifth", RefusalTest::led, x -> x.lead(0, -1, -1), -4);
        refused("9: lead, a fifth, all told", RefusalTest::led, x -> x.lead(5, 999, 0), -4);
        refused("9: lead, -2 of order before -4", RefusalTest::led, x -> x.lead(6, 1, 1), -2);
        refused("9: lead, -2 of a before -4", RefusalTest::led, x -> x.lead(0, 1000, 1), -2);
    }

    private static void leap() {
        for (int bad : NO_VERSION) {
            everywhere("10: leap, version " + bad, x -> x.leap(bad), -2);
        }
        refused("10: leap, below a cut", RefusalTest::busy, x -> x.leap(19), -3);
        refused("10: leap, below a cut, 0", RefusalTest::busy, x -> x.leap(0), -3);
        refused("10: leap, below a cut, four leads", RefusalTest::led, x -> x.leap(19), -3);
        refused("10: leap, below a cut, no leads", RefusalTest::cutAlone, x -> x.leap(499), -3);
    }

    private static void found() {
        for (int none : new int[] {-1, MIN, 400, MAX}) {
            everywhere("11: found, none such " + none, x -> x.found(none), TripleOrders.NONE);
        }
    }

    private static void cut() {
        for (int bad : NO_VERSION) {
            everywhere("12: cut, version " + bad, x -> x.cut(bad), -2);
        }
        refused("12: cut, below the latest", RefusalTest::busy, x -> x.cut(19), -3);
        refused("12: cut, below the latest, 0", RefusalTest::busy, x -> x.cut(0), -3);
        refused("12: cut, below the latest without events", RefusalTest::cutAlone, x -> x.cut(499), -3);
        refused("12: cut, at the latest again", RefusalTest::busy, x -> x.cut(20), 0);
    }

    private static void pages() {
        for (int bad : NO_ORDER) {
            everywhere("13: pages, order " + bad, x -> x.pages(bad), -2);
        }
    }

    private static void page() {
        for (int bad : NO_ORDER) {
            everywhere("14: page, order " + bad, x -> x.page(bad, 0, 0), -2);
            everywhere("14: page, -2 of order before NONE " + bad, x -> x.page(bad, -1, 0), -2);
        }
        for (int bad : new int[] {-1, 4, MIN, MAX}) {
            everywhere("14: page, what " + bad, x -> x.page(0, 0, bad), -2);
            everywhere("14: page, -2 of what before NONE " + bad, x -> x.page(0, MAX, bad), -2);
        }
        for (int k : new int[] {-1, MIN, 2, MAX}) {
            for (int what = 0; what < 4; what++) {
                int asked = what;
                everywhere("14: page, none such " + k, x -> x.page(3, k, asked), TripleOrders.NONE);
            }
        }
    }

    /** mark alone has no -2: there is no page k of an order that is none. */
    private static void mark() {
        for (int bad : NO_ORDER) {
            everywhere("15: mark, order " + bad, x -> x.mark(bad, 0), 0);
        }
        for (int k : new int[] {-1, MIN, 2, MAX}) {
            everywhere("15: mark, none such " + k, x -> x.mark(0, k), 0);
        }
    }

    private static void count() {
        for (int bad : new int[] {-1, 5, MIN, MAX}) {
            everywhere("16: count, what " + bad, x -> x.count(bad), -2);
        }
    }
}
