/** Each promise of the document by itself: ordinary inputs, the edges that it names, and wrong inputs. */
public final class PromiseTest {
    private static final int MAX = Integer.MAX_VALUE;
    private static final int MIN = Integer.MIN_VALUE;
    private static int wrong = 0;

    private static void due(String call, long got, long want) {
        if (got != want) {
            wrong++;
            System.out.println(call + " answered " + got + ", due is " + want);
        }
    }

    public static void main(String[] args) {
        newObject();
        add();
        addPages();
        remove();
        removePages();
        range();
        at();
        seek();
        seconds();
        sum();
        lead();
        leap();
        found();
        cut();
        pages();
        page();
        mark();
        count();
        clear();
        due("NONE", TripleOrders.NONE, -1);
        System.out.println(wrong == 0 ? "all answers are as due" : wrong + " answers are not as due");
        if (wrong != 0) {
            System.exit(1);
        }
    }

    /** Three triples that come at 5, 6 and 8; the second goes at 8. */
    private static TripleOrders some() {
        TripleOrders x = new TripleOrders(20);
        x.add(1, 2, 3, 5);
        x.add(1, 4, 2, 6);
        x.add(7, 2, 3, 8);
        x.remove(1, 4, 2, 8);
        return x;
    }

    private static int roomOf(int rows) {
        TripleOrders x = new TripleOrders(rows);
        int came = 0;
        while (came < 500 && x.add(came, 0, 0, 0) == 1) {
            came++;
        }
        return came;
    }

    private static void newObject() {
        int[] rows = {MIN, -1, 0, 1, 2, 17, 399, 400, 401, MAX};
        int[] room = {1, 1, 1, 1, 2, 17, 399, 400, 400, 400};
        for (int i = 0; i < rows.length; i++) {
            due("1: room of " + rows[i], roomOf(rows[i]), room[i]);
        }
        TripleOrders x = new TripleOrders(5);
        int[] counts = {0, 0, 0, 0, -1};
        for (int what = 0; what < 5; what++) {
            due("1: count(" + what + ")", x.count(what), counts[what]);
        }
        due("1: found", x.found(0), -1);
        due("1: at", x.at(0, 0), -1);
        due("1: seek", x.seek(0), 0);
    }

    private static void add() {
        TripleOrders x = new TripleOrders(3);
        due("2: it comes", x.add(0, 999, 0, 0), 1);
        due("2: it was there", x.add(0, 999, 0, 0), 0);
        due("2: it was there, later", x.add(0, 999, 0, 7), 0);
        due("2: 0 is no event, now stays", x.count(3), 0);
        due("2: the same version again", x.add(999, 0, 999, 0), 1);
        int[] bad = {-1, 1000, MIN, MAX};
        for (int term : bad) {
            due("2: s " + term, x.add(term, 0, 0, 1), -2);
            due("2: p " + term, x.add(0, term, 0, 1), -2);
            due("2: o " + term, x.add(0, 0, term, 1), -2);
        }
        due("2: version -1", x.add(5, 5, 5, -1), -2);
        due("2: version 1000001", x.add(5, 5, 5, 1000001), -2);
        due("2: the last version", x.add(5, 5, 5, 1000000), 1);
        due("2: below now", x.add(6, 5, 5, 999999), -3);
        due("2: below now, there", x.add(5, 5, 5, 999999), -3);
        due("2: -2 before -3", x.add(1000, 5, 5, 999999), -2);
        due("2: -3 before -4", x.add(6, 6, 6, 0), -3);
        due("2: no room", x.add(6, 5, 5, 1000000), -4);
        due("2: there, no room", x.add(5, 5, 5, 1000000), 0);
        due("2: refusals change nothing", x.count(0) * 1000 + x.count(1), 3003);
        TripleOrders y = new TripleOrders(5);
        y.cut(50);
        due("2: below a cut", y.add(1, 1, 1, 49), -3);
        due("2: at a cut", y.add(1, 1, 1, 50), 1);
    }

    /** The even triples 0, 2 .. 32 on the s axis, so that a page of 17 has split. */
    private static TripleOrders split() {
        TripleOrders x = new TripleOrders(400);
        for (int i = 0; i < 17; i++) {
            x.add(2 * i, 0, 0, 0);
        }
        return x;
    }

    private static void pagesAre(String call, TripleOrders x, int order, int... lengths) {
        due(call + ": pages", x.pages(order), lengths.length);
        for (int k = 0; k < lengths.length; k++) {
            due(call + ": page " + k, x.page(order, k, 0), lengths[k]);
        }
    }

    private static void addPages() {
        TripleOrders full = new TripleOrders(400);
        for (int i = 0; i < 16; i++) {
            full.add(2 * i, 0, 0, 0);
        }
        pagesAre("2: a page of 16", full, 0, 16);
        TripleOrders x = split();
        pagesAre("2: a page of 17", x, 0, 9, 8);
        due("2: first of page 1", x.page(0, 1, 1), 18);
        x.add(17, 0, 0, 0);
        pagesAre("2: between the pages, to the one before", x, 0, 10, 8);
        x.add(18, 0, 1, 0);
        pagesAre("2: just behind a page's first", x, 0, 10, 9);
        x.add(999, 0, 0, 0);
        pagesAre("2: behind all", x, 0, 10, 10);
        TripleOrders y = new TripleOrders(400);
        for (int i = 0; i < 17; i++) {
            y.add(500 + i, 0, 0, 0);
        }
        y.add(0, 0, 0, 0);
        pagesAre("2: before all, to the first page", y, 0, 10, 8);
        due("2: it is the first now", y.page(0, 0, 1), 0);
        for (int i = 1; i < 8; i++) {
            y.add(i, 0, 0, 0);
        }
        pagesAre("2: the first page splits", y, 0, 9, 8, 8);
    }

    private static void remove() {
        TripleOrders x = new TripleOrders(4);
        x.add(1, 2, 3, 10);
        due("3: never there", x.remove(3, 2, 1, 10), 0);
        int[] bad = {-1, 1000, MIN, MAX};
        for (int term : bad) {
            due("3: s " + term, x.remove(term, 2, 3, 10), -2);
            due("3: p " + term, x.remove(1, term, 3, 10), -2);
            due("3: o " + term, x.remove(1, 2, term, 10), -2);
        }
        due("3: version -1", x.remove(1, 2, 3, -1), -2);
        due("3: version 1000001", x.remove(1, 2, 3, 1000001), -2);
        due("3: below now", x.remove(1, 2, 3, 9), -3);
        due("3: below now, not there", x.remove(3, 2, 1, 9), -3);
        due("3: it goes", x.remove(1, 2, 3, 12), 1);
        due("3: now", x.count(3), 12);
        due("3: gone already", x.remove(1, 2, 3, 12), 0);
        due("3: gone already, later: now stays", x.remove(1, 2, 3, 100) + x.count(3), 12);
        due("3: it comes again", x.add(1, 2, 3, 12), 1);
        due("3: and another", x.add(4, 4, 4, 1000000), 1);
        due("3: -2 before -4", x.remove(1, 2, 3, 1000001), -2);
        due("3: -3 before -4", x.remove(1, 2, 3, 12), -3);
        due("3: no room", x.remove(1, 2, 3, 1000000), -4);
        due("3: not there, no room", x.remove(9, 9, 9, 1000000), 0);
        due("3: refusals change nothing", x.count(0) * 1000 + x.count(1), 2004);
    }

    private static void goAll(TripleOrders x, int... firsts) {
        for (int s : firsts) {
            due("3: goes " + s, x.remove(s, 0, 0, 0), 1);
        }
    }

    private static void removePages() {
        TripleOrders x = split();
        goAll(x, 0, 2, 4, 6, 8, 10);
        pagesAre("3: 11 together are not joined", x, 0, 3, 8);
        goAll(x, 12);
        pagesAre("3: 10 together are, with the one behind", x, 0, 10);
        due("3: first of the joined", x.page(0, 0, 1), 14);
        TripleOrders y = split();
        goAll(y, 32, 30, 28, 26, 24, 22);
        pagesAre("3: 11 together from the back", y, 0, 9, 2);
        goAll(y, 20);
        pagesAre("3: 10 together, with the one before", y, 0, 10);
        due("3: first of the joined from the back", y.page(0, 0, 1), 0);
        TripleOrders one = new TripleOrders(9);
        one.add(1, 1, 1, 0);
        one.remove(1, 1, 1, 0);
        pagesAre("3: the only triple", one, 0);
        middlePage();
        emptiedPage();
    }

    /** With neighbours that it could both join, a page goes together with the one behind, once. */
    private static void middlePage() {
        TripleOrders x = new TripleOrders(400);
        for (int i = 0; i < 26; i++) {
            x.add(i, 0, 0, 0);
        }
        pagesAre("3: three pages", x, 0, 9, 9, 8);
        goAll(x, 0, 1, 2, 3, 4, 5);
        goAll(x, 18, 19, 20, 21, 22);
        goAll(x, 9);
        pagesAre("3: 3 8 3", x, 0, 3, 8, 3);
        goAll(x, 10);
        pagesAre("3: the one behind first", x, 0, 3, 10);
        due("3: it begins with its own", x.page(0, 1, 1), 11);
    }

    /** A page of one between two of ten and more is gone when it is empty, and nothing joins. */
    private static void emptiedPage() {
        TripleOrders x = new TripleOrders(400);
        for (int i = 0; i < 26; i++) {
            x.add(10 * i, 0, 0, 0);
        }
        x.add(1, 0, 0, 0);
        x.add(2, 0, 0, 0);
        for (int i = 1; i < 5; i++) {
            x.add(180 + i, 0, 0, 0);
        }
        pagesAre("3: before it is emptied", x, 0, 11, 9, 12);
        goAll(x, 90, 100, 110, 120, 130, 140, 150, 160);
        pagesAre("3: one is left", x, 0, 11, 1, 12);
        goAll(x, 170);
        pagesAre("3: it is gone", x, 0, 11, 12);
        due("3: the next begins as before", x.page(0, 1, 1), 180);
    }

    private static void handIs(String call, TripleOrders x, int... terms) {
        for (int i = 0; i < terms.length; i++) {
            due(call + ": at(" + i / 3 + ", " + i % 3 + ")", x.at(i / 3, i % 3), terms[i]);
        }
        due(call + ": at behind", x.at(terms.length / 3, 0), -1);
    }

    private static void range() {
        TripleOrders x = some();
        due("4: before all", x.range(0, -1, -1, 4), 0);
        due("4: at 5", x.range(0, -1, -1, 5), 1);
        due("4: at 7", x.range(0, -1, -1, 7), 2);
        handIs("4: at 7", x, 1, 2, 3, 1, 4, 2);
        due("4: at 8", x.range(0, -1, -1, 8), 2);
        handIs("4: at 8", x, 1, 2, 3, 7, 2, 3);
        due("4: above now", x.range(0, -1, -1, 1000000), 2);
        due("4: a", x.range(0, 1, -1, 7), 2);
        due("4: a and b", x.range(0, 1, 4, 7), 1);
        due("4: a and b, gone", x.range(0, 1, 4, 8), 0);
        due("4: none has it", x.range(0, 999, 999, 8), 0);
        sixOrders();
        rangeRefusals();
    }

    private static void sixOrders() {
        TripleOrders x = new TripleOrders(9);
        x.add(1, 2, 3, 0);
        x.add(1, 3, 2, 0);
        x.add(2, 1, 3, 0);
        int[][] all = {
            {1, 2, 3, 1, 3, 2, 2, 1, 3}, {1, 3, 2, 1, 2, 3, 2, 1, 3}, {2, 1, 3, 1, 2, 3, 1, 3, 2},
            {2, 1, 3, 1, 2, 3, 1, 3, 2}, {1, 3, 2, 1, 2, 3, 2, 1, 3}, {1, 3, 2, 2, 1, 3, 1, 2, 3}};
        int[][] told = {{1, 2}, {1, 3}, {2, 1}, {2, 3}, {3, 1}, {3, 2}};
        for (int order = 0; order < 6; order++) {
            due("4: order " + order, x.range(order, -1, -1, 0), 3);
            handIs("4: order " + order, x, all[order]);
            due("4: told in order " + order, x.range(order, told[order][0], told[order][1], 0), 1);
            handIs("4: told in order " + order, x, 1, 2, 3);
        }
    }

    private static void rangeRefusals() {
        TripleOrders x = some();
        x.range(0, 7, -1, 8);
        int[] bad = {-2, 1000, MIN, MAX};
        for (int value : bad) {
            due("4: order " + value, x.range(value, 1, 1, 8), -2);
            due("4: a " + value, x.range(0, value, 1, 8), -2);
            due("4: b " + value, x.range(0, 1, value, 8), -2);
        }
        due("4: order -1", x.range(-1, 1, 1, 8), -2);
        due("4: order 6", x.range(6, 1, 1, 8), -2);
        due("4: version -1", x.range(0, 1, 1, -1), -2);
        due("4: version 1000001", x.range(0, 1, 1, 1000001), -2);
        due("4: b alone", x.range(0, -1, 0, 8), -3);
        due("4: -2 before -3", x.range(0, -1, 0, -1), -2);
        x.cut(6);
        due("4: below a cut", x.range(0, 1, 1, 5), -3);
        handIs("4: refusals leave what is at hand", x, 7, 2, 3);
        due("4: at a cut", x.range(0, 1, -1, 6), 2);
    }

    private static void at() {
        TripleOrders x = some();
        due("5: nothing at hand", x.at(0, 0), -1);
        due("5: nothing at hand, what", x.at(0, 3), -2);
        x.range(5, 3, -1, 8);
        handIs("5: order 5", x, 1, 2, 3, 7, 2, 3);
        int[] none = {-1, 2, MIN, MAX};
        for (int i : none) {
            due("5: at " + i, x.at(i, 0), -1);
            due("5: what " + i, x.at(0, i == 2 ? 3 : i), -2);
            due("5: -2 first " + i, x.at(i, 3), -2);
        }
        x.remove(1, 2, 3, 9);
        x.cut(9);
        handIs("5: what is at hand stays", x, 1, 2, 3, 7, 2, 3);
    }

    private static void seek() {
        TripleOrders x = new TripleOrders(20);
        for (int i = 0; i < 4; i++) {
            x.add(10 * i, 3 * i, 5, 0);
            x.add(10, 20 + i, 999, 0);
            x.add(10, 50, 100 * i, 0);
        }
        due("6: nothing at hand", x.seek(0), 0);
        x.range(0, -1, -1, 0);
        seeks("6: first", x, new int[] {MIN, -1, 0, 1, 10, 11, 20, 21, 30, 31, 999, 1000, MAX},
            new int[] {0, 0, 0, 1, 1, 10, 10, 11, 11, 12, 12, 12, 12});
        x.range(0, 10, -1, 0);
        seeks("6: second", x, new int[] {MIN, 0, 3, 4, 20, 23, 24, 50, 51, 999, 1000, MAX},
            new int[] {0, 0, 0, 1, 1, 4, 5, 5, 9, 9, 9, 9});
        x.range(0, 10, 50, 0);
        seeks("6: third", x, new int[] {MIN, 0, 1, 100, 300, 301, 1000, MAX}, new int[] {0, 0, 1, 1, 3, 4, 4, 4});
        x.range(3, 50, -1, 0);
        seeks("6: second of p o s", x, new int[] {100, 101, 301}, new int[] {1, 2, 4});
        x.range(0, 500, -1, 0);
        seeks("6: none", x, new int[] {-5, 0, 5, MAX}, new int[] {0, 0, 0, 0});
    }

    private static void seeks(String call, TripleOrders x, int[] values, int[] wants) {
        for (int i = 0; i < values.length; i++) {
            due(call + ": seek(" + values[i] + ")", x.seek(values[i]), wants[i]);
        }
    }

    private static void firstRefusals(String call, boolean sums) {
        TripleOrders x = some();
        int[] bad = {-1, 1000, MIN, MAX};
        for (int value : bad) {
            due(call + ": order " + value, sums ? x.sum(value, 1, 8) : x.seconds(value, 1, 8), -2);
            due(call + ": a " + value, sums ? x.sum(0, value, 8) : x.seconds(0, value, 8), -2);
        }
        due(call + ": order 6", sums ? x.sum(6, 1, 8) : x.seconds(6, 1, 8), -2);
        due(call + ": version -1", sums ? x.sum(0, 1, -1) : x.seconds(0, 1, -1), -2);
        due(call + ": version 1000001", sums ? x.sum(0, 1, 1000001) : x.seconds(0, 1, 1000001), -2);
        x.range(0, 7, 2, 8);
        x.cut(7);
        due(call + ": below a cut", sums ? x.sum(0, 1, 6) : x.seconds(0, 1, 6), -3);
        due(call + ": -2 before -3", sums ? x.sum(0, -1, 6) : x.seconds(0, -1, 6), -2);
        due(call + ": at a cut", sums ? x.sum(0, 1, 7) : x.seconds(0, 1, 7), sums ? 5 : 2);
        handIs(call + ": what is at hand stays", x, 7, 2, 3);
        due(call + ": and its range", x.seek(3), 0);
    }

    private static void seconds() {
        TripleOrders x = some();
        x.add(1, 2, 9, 9);
        x.add(1, 0, 9, 9);
        x.add(1, 999, 9, 9);
        due("7: before all", x.seconds(0, 1, 4), 0);
        due("7: one", x.seconds(0, 1, 5), 1);
        due("7: two", x.seconds(0, 1, 7), 2);
        due("7: one is gone", x.seconds(0, 1, 8), 1);
        due("7: different ones", x.seconds(0, 1, 9), 3);
        due("7: of s o p", x.seconds(1, 1, 9), 2);
        due("7: of p s o", x.seconds(2, 2, 9), 2);
        due("7: of p o s", x.seconds(3, 2, 9), 2);
        due("7: of o s p", x.seconds(4, 3, 9), 2);
        due("7: of o p s", x.seconds(5, 3, 9), 1);
        due("7: none", x.seconds(0, 500, 9), 0);
        x.add(0, 0, 0, 9);
        x.add(999, 1, 1, 9);
        due("7: the lowest term", x.seconds(0, 0, 9), 1);
        due("7: the highest term", x.seconds(0, 999, 9), 1);
        firstRefusals("7", false);
    }

    private static void sum() {
        TripleOrders x = some();
        x.add(1, 999, 999, 9);
        due("8: before all", x.sum(0, 1, 4), 0);
        due("8: two", x.sum(0, 1, 7), 5);
        due("8: one is gone", x.sum(0, 1, 8), 3);
        due("8: of s p o", x.sum(0, 1, 9), 1002);
        due("8: of s o p", x.sum(1, 1, 9), 1001);
        due("8: of p s o", x.sum(2, 2, 9), 6);
        due("8: of p o s", x.sum(3, 2, 9), 8);
        due("8: of o s p", x.sum(4, 3, 9), 4);
        due("8: of o p s", x.sum(5, 3, 9), 8);
        due("8: none", x.sum(0, 500, 9), 0);
        x.add(0, 0, 6, 9);
        x.add(999, 1, 8, 9);
        due("8: the lowest term", x.sum(0, 0, 9), 6);
        due("8: the highest term", x.sum(0, 999, 9), 8);
        TripleOrders y = new TripleOrders(400);
        for (int i = 0; i < 400; i++) {
            y.add(1, i, 999, 0);
        }
        due("8: all rows", y.sum(0, 1, 0), 399600);
        firstRefusals("8", true);
    }

    private static void lead() {
        TripleOrders x = some();
        int[] bad = {-2, 1000, MIN, MAX};
        for (int value : bad) {
            due("9: order " + value, x.lead(value, 1, 1), -2);
            due("9: a " + value, x.lead(0, value, 1), -2);
            due("9: b " + value, x.lead(0, 1, value), -2);
        }
        due("9: order -1", x.lead(-1, 1, 1), -2);
        due("9: order 6", x.lead(6, 1, 1), -2);
        due("9: b alone", x.lead(0, -1, 0), -3);
        due("9: -2 before -3", x.lead(6, -1, 0), -2);
        due("9: refusals change nothing", x.count(2), 0);
        due("9: first", x.lead(0, -1, -1), 1);
        due("9: second", x.lead(5, 999, 0), 2);
        due("9: third", x.lead(5, 999, -1), 3);
        due("9: fourth", x.lead(5, 999, -1), 4);
        due("9: fifth", x.lead(0, 1, 1), -4);
        due("9: -3 before -4", x.lead(0, -1, 1), -3);
        due("9: -2 before -4", x.lead(0, -2, 1), -2);
        due("9: four stay", x.count(2), 4);
    }

    private static void leap() {
        TripleOrders x = new TripleOrders(60);
        for (int i = 0; i < 10; i++) {
            x.add(1, i, 2 * i, 1);
        }
        for (int i = 0; i < 10; i++) {
            x.add(2, 2 * i, 3, 2);
        }
        for (int i = 0; i < 10; i++) {
            x.add(3 * i, 7, 7, 3);
        }
        x.lead(0, 1, -1);
        due("10: one lead", x.leap(3), 10);
        due("10: leads are none then", x.count(2), 0);
        due("10: without leads", x.leap(3), 0);
        due("10: nothing found then", x.found(0), -1);
        x.lead(0, 1, -1);
        x.lead(0, 2, -1);
        x.lead(2, 7, -1);
        due("10: three second terms", x.leap(3), 2);
        due("10: 0", x.found(0), 0);
        due("10: 6", x.found(1), 6);
        x.lead(0, 1, -1);
        x.lead(0, 2, -1);
        due("10: version below the second's", x.leap(1), 0);
        x.lead(4, -1, -1);
        x.lead(0, -1, -1);
        x.lead(3, 7, 7);
        due("10: first, first and third terms", x.leap(3), 5);
        int[] wants = {0, 3, 6, 12, 18, -1};
        for (int i = 0; i < wants.length; i++) {
            due("10: found(" + i + ")", x.found(i), wants[i]);
        }
        leapRefusals();
    }

    private static void leapRefusals() {
        TripleOrders x = some();
        x.lead(0, 1, -1);
        x.leap(7);
        x.lead(0, -1, -1);
        due("10: version -1", x.leap(-1), -2);
        due("10: version 1000001", x.leap(1000001), -2);
        x.cut(8);
        due("10: below a cut", x.leap(7), -3);
        due("10: the leads stay", x.count(2), 1);
        due("10: what was found stays", x.found(1), 4);
        due("10: at a cut", x.leap(8), 2);
        due("10: found", x.found(1), 7);
    }

    private static void found() {
        TripleOrders x = some();
        due("11: no leap yet", x.found(0), -1);
        x.add(999, 2, 0, 8);
        x.add(0, 2, 0, 8);
        x.lead(2, 2, -1);
        due("11: leap", x.leap(8), 4);
        int[] wants = {0, 1, 7, 999, -1};
        for (int i = 0; i < wants.length; i++) {
            due("11: found(" + i + ")", x.found(i), wants[i]);
        }
        due("11: found(-1)", x.found(-1), -1);
        due("11: found(MIN)", x.found(MIN), -1);
        due("11: found(MAX)", x.found(MAX), -1);
        x.remove(999, 2, 0, 9);
        x.range(0, 1, -1, 9);
        due("11: it stays", x.found(3), 999);
    }

    private static void cut() {
        TripleOrders x = some();
        due("12: version -1", x.cut(-1), -2);
        due("12: version 1000001", x.cut(1000001), -2);
        due("12: no cut yet", x.count(4), -1);
        due("12: below all", x.cut(4), 0);
        due("12: nothing gone at 7", x.cut(7), 0);
        due("12: below the latest", x.cut(6), -3);
        due("12: now is as it was", x.count(3), 8);
        due("12: what came and went", x.cut(8), 2);
        due("12: events", x.count(1), 2);
        due("12: triples", x.count(0), 2);
        due("12: at the same version again", x.cut(8), 0);
        x.add(5, 5, 5, 8);
        x.remove(5, 5, 5, 8);
        due("12: what came since at the same", x.cut(8), 2);
        due("12: above now", x.cut(100), 0);
        due("12: now is not below a cut", x.count(3), 100);
        due("12: the latest cut", x.count(4), 100);
        due("12: below now", x.remove(1, 2, 3, 99), -3);
        due("12: it goes", x.remove(1, 2, 3, 100), 1);
        due("12: the last version", x.cut(1000000), 2);
        due("12: one is left", x.range(0, -1, -1, 1000000), 1);
        cutAmongMany();
    }

    private static void cutAmongMany() {
        TripleOrders x = new TripleOrders(20);
        for (int i = 0; i < 3; i++) {
            x.add(1, 1, 1, 10 * i);
            x.remove(1, 1, 1, 10 * i + 5);
        }
        due("12: up to the second coming", x.cut(12), 2);
        due("12: it is there at 12", x.range(0, -1, -1, 12), 1);
        due("12: it is not at 15", x.range(0, -1, -1, 15), 0);
        due("12: it is at 24", x.range(0, -1, -1, 24), 1);
        due("12: up to the second going", x.cut(15), 2);
        due("12: it is not at 19", x.range(0, -1, -1, 19), 0);
        due("12: it is at 20", x.range(0, -1, -1, 20), 1);
        due("12: events", x.count(1), 2);
    }

    private static void pages() {
        TripleOrders x = new TripleOrders(400);
        due("13: none", x.pages(5), 0);
        for (int i = 0; i < 20; i++) {
            x.add(i, 0, 999 - i, 0);
        }
        for (int i = 0; i < 17; i++) {
            x.add(500, i, i, 0);
        }
        int[] wants = {4, 4, 4, 3, 4, 4};
        for (int order = 0; order < 6; order++) {
            due("13: pages(" + order + ")", x.pages(order), wants[order]);
        }
        due("13: pages(-1)", x.pages(-1), -2);
        due("13: pages(6)", x.pages(6), -2);
        due("13: pages(MIN)", x.pages(MIN), -2);
        due("13: pages(MAX)", x.pages(MAX), -2);
    }

    private static void page() {
        TripleOrders x = some();
        int[][] firsts = {{1, 2, 3}, {1, 3, 2}, {2, 1, 3}, {2, 3, 1}, {3, 1, 2}, {3, 2, 1}};
        for (int order = 0; order < 6; order++) {
            due("14: how many in " + order, x.page(order, 0, 0), 2);
            for (int what = 1; what < 4; what++) {
                due("14: page(" + order + ", 0, " + what + ")", x.page(order, 0, what), firsts[order][what - 1]);
            }
        }
        int[] none = {-1, 1, MIN, MAX};
        for (int k : none) {
            due("14: k " + k, x.page(0, k, 0), -1);
            due("14: k " + k + ", a term", x.page(0, k, 3), -1);
            due("14: order, k " + k, x.page(6, k, 0), -2);
            due("14: what, k " + k, x.page(0, k, 4), -2);
        }
        due("14: order -1", x.page(-1, 0, 0), -2);
        due("14: what -1", x.page(0, 0, -1), -2);
    }

    private static int markDue(int... terms) {
        int m = 0;
        for (int term : terms) {
            m = Integer.rotateLeft(m ^ term, 11) * 0x85EBCA77;
        }
        return m;
    }

    private static void mark() {
        TripleOrders x = some();
        due("15: order 0", x.mark(0, 0), markDue(1, 2, 3, 7, 2, 3));
        due("15: order 1", x.mark(1, 0), markDue(1, 3, 2, 7, 3, 2));
        due("15: order 2", x.mark(2, 0), markDue(2, 1, 3, 2, 7, 3));
        due("15: order 3", x.mark(3, 0), markDue(2, 3, 1, 2, 3, 7));
        due("15: order 4", x.mark(4, 0), markDue(3, 1, 2, 3, 7, 2));
        due("15: order 5", x.mark(5, 0), markDue(3, 2, 1, 3, 2, 7));
        TripleOrders y = split();
        due("15: a page behind", y.mark(0, 1),
            markDue(18, 0, 0, 20, 0, 0, 22, 0, 0, 24, 0, 0, 26, 0, 0, 28, 0, 0, 30, 0, 0, 32, 0, 0));
        int[] none = {-1, 2, MIN, MAX};
        for (int k : none) {
            due("15: k " + k, y.mark(0, k), 0);
        }
        int[] noOrder = {-1, 6, MIN, MAX};
        for (int order : noOrder) {
            due("15: order " + order, y.mark(order, 0), 0);
        }
    }

    private static void count() {
        TripleOrders x = some();
        x.lead(0, 1, 1);
        int[] wants = {2, 4, 1, 8, -1};
        for (int what = 0; what < 5; what++) {
            due("16: count(" + what + ")", x.count(what), wants[what]);
        }
        x.cut(7);
        due("16: a cut below now", x.count(3), 8);
        due("16: the latest cut", x.count(4), 7);
        due("16: count(5)", x.count(5), -2);
        due("16: count(-1)", x.count(-1), -2);
        due("16: count(MIN)", x.count(MIN), -2);
        due("16: count(MAX)", x.count(MAX), -2);
    }

    private static void clear() {
        TripleOrders x = some();
        x.range(5, 3, 2, 8);
        x.lead(0, 1, -1);
        x.leap(8);
        x.lead(0, 1, -1);
        x.cut(8);
        x.clear();
        int[] counts = {0, 0, 0, 0, -1};
        for (int what = 0; what < 5; what++) {
            due("17: count(" + what + ")", x.count(what), counts[what]);
        }
        for (int order = 0; order < 6; order++) {
            due("17: pages(" + order + ")", x.pages(order), 0);
            due("17: mark(" + order + ", 0)", x.mark(order, 0), 0);
            due("17: range(" + order + ")", x.range(order, -1, -1, 0), 0);
        }
        due("17: found", x.found(0), -1);
        TripleOrders y = some();
        y.range(0, -1, -1, 8);
        y.clear();
        due("17: nothing at hand", y.at(0, 0), -1);
        due("17: seek", y.seek(0), 0);
        due("17: seek far", y.seek(1000), 0);
        due("17: it comes again", y.add(1, 2, 3, 0), 1);
        due("17: just one", y.range(0, -1, -1, 1000000), 1);
    }
}
