import java.util.Arrays;

/** The boundary cases that the document names and that are no refusals, each by a test of its own. */
public final class BoundaryTest {
    private static final int MAX = Integer.MAX_VALUE;
    private static final int MIN = Integer.MIN_VALUE;
    private static final int NONE = TripleOrders.NONE;
    private static final int LAST = 1000000;
    private static int wrong = 0;

    private static void due(String call, long got, long want) {
        if (got != want) {
            wrong++;
            System.out.println(call + " answered " + got + ", due is " + want);
        }
    }

    public static void main(String[] args) {
        rooms();
        additions();
        removals();
        comingToPages();
        goingFromPages();
        ranges();
        hands();
        seeks();
        secondsAndSums();
        leadsAndLeaps();
        cuts();
        looksAtPages();
        counts();
        clears();
        System.out.println(wrong == 0 ? "all answers are as due" : wrong + " answers are not as due");
        if (wrong != 0) {
            System.exit(1);
        }
    }

    // ---- 1: a new object

    private static void rooms() {
        roomIs(MIN, 1);
        roomIs(-1, 1);
        roomIs(0, 1);
        roomIs(1, 1);
        roomIs(2, 2);
        roomIs(399, 399);
        roomIs(400, 400);
        roomIs(401, 400);
        roomIs(MAX, 400);
        roomIsOfEvents();
        roomOfOneStaysTaken();
        newHasNothing();
        objectsAreApart();
    }

    private static void roomIs(int rows, int want) {
        TripleOrders x = new TripleOrders(rows);
        int came = 0;
        while (came < 402 && x.add(came, 0, 0, 0) == 1) {
            came++;
        }
        due("1: room of " + rows, came, want);
        due("1: events in the room of " + rows, x.count(1), want);
        due("1: one more in the room of " + rows, x.add(999, 999, 999, LAST), -4);
    }

    private static void roomIsOfEvents() {
        TripleOrders x = new TripleOrders(3);
        x.add(1, 1, 1, 0);
        x.remove(1, 1, 1, 0);
        due("1: the last row", x.add(1, 1, 1, 0), 1);
        due("1: one triple takes three rows", x.remove(1, 1, 1, 0), -4);
    }

    private static void roomOfOneStaysTaken() {
        TripleOrders x = new TripleOrders(1);
        due("1: room of one", x.add(0, 0, 0, 0), 1);
        due("1: it can not go", x.remove(0, 0, 0, 0), -4);
        due("1: a cut takes nothing", x.cut(LAST), 0);
        due("1: and it can not go still", x.remove(0, 0, 0, LAST), -4);
        due("1: there", x.range(0, 0, 0, LAST), 1);
    }

    private static void newHasNothing() {
        TripleOrders x = new TripleOrders(5);
        int[] counts = {0, 0, 0, 0, -1};
        for (int what = 0; what < 5; what++) {
            due("1: count(" + what + ") of a new one", x.count(what), counts[what]);
        }
        for (int order = 0; order < 6; order++) {
            due("1: pages(" + order + ") of a new one", x.pages(order), 0);
            due("1: page(" + order + ") of a new one", x.page(order, 0, 0), NONE);
            due("1: mark(" + order + ") of a new one", x.mark(order, 0), 0);
            due("1: seconds(" + order + ") of a new one", x.seconds(order, 0, 0), 0);
            due("1: sum(" + order + ") of a new one", x.sum(order, 0, 0), 0);
            due("1: range(" + order + ") of a new one", x.range(order, -1, -1, LAST), 0);
        }
        due("1: nothing at hand", x.at(0, 0), NONE);
        due("1: nothing to seek", x.seek(0), 0);
        due("1: nothing to leap over", x.leap(0), 0);
        due("1: nothing found", x.found(0), NONE);
        due("1: nothing to cut", x.cut(0), 0);
        due("1: nothing to take out", x.remove(0, 0, 0, 0), 0);
    }

    private static void objectsAreApart() {
        TripleOrders x = new TripleOrders(5);
        TripleOrders y = new TripleOrders(5);
        x.add(1, 1, 1, 9);
        x.lead(0, -1, -1);
        due("1: another object's triples", y.count(0), 0);
        due("1: another object's leads", y.count(2), 0);
        due("1: another object's now", y.add(1, 1, 1, 0), 1);
    }

    // ---- 2: add

    private static void additions() {
        termsAtTheirEnds();
        versionsAtTheirEnds();
        atNowAgain();
        thereAlreadyLeavesNow();
        comesAgain();
        atTheCut();
    }

    private static void termsAtTheirEnds() {
        TripleOrders x = new TripleOrders(9);
        int[][] ends = {{0, 0, 0}, {0, 0, 999}, {0, 999, 0}, {999, 0, 0}, {999, 999, 999}};
        for (int[] t : ends) {
            due("2: a triple of ends", x.add(t[0], t[1], t[2], 0), 1);
        }
        for (int order = 0; order < 6; order++) {
            due("2: all of them in " + order, x.range(order, -1, -1, 0), 5);
            due("2: the lowest in " + order, x.at(0, 0) + x.at(0, 1) + x.at(0, 2), 0);
            due("2: the highest in " + order, x.at(4, 0) + x.at(4, 1) + x.at(4, 2), 2997);
        }
    }

    private static void versionsAtTheirEnds() {
        TripleOrders x = new TripleOrders(9);
        due("2: version 0", x.add(1, 1, 1, 0), 1);
        due("2: version 1000000", x.add(2, 2, 2, LAST), 1);
        due("2: now", x.count(3), LAST);
        due("2: again at 1000000", x.add(3, 3, 3, LAST), 1);
        due("2: just below", x.add(4, 4, 4, LAST - 1), -3);
        due("2: there at 0", x.range(0, -1, -1, 0), 1);
        due("2: there at 999999", x.range(0, -1, -1, LAST - 1), 1);
        due("2: there at 1000000", x.range(0, -1, -1, LAST), 3);
    }

    private static void atNowAgain() {
        TripleOrders x = new TripleOrders(9);
        x.add(1, 1, 1, 7);
        due("2: at now", x.add(2, 2, 2, 7), 1);
        due("2: below now", x.add(3, 3, 3, 6), -3);
        due("2: above now", x.add(3, 3, 3, 8), 1);
    }

    private static void thereAlreadyLeavesNow() {
        TripleOrders x = new TripleOrders(9);
        x.add(1, 1, 1, 7);
        due("2: there already", x.add(1, 1, 1, 50), 0);
        due("2: now stays", x.count(3), 7);
        due("2: so that 7 is still good", x.add(2, 2, 2, 7), 1);
    }

    private static void comesAgain() {
        TripleOrders x = new TripleOrders(9);
        x.add(1, 1, 1, 1);
        x.remove(1, 1, 1, 3);
        due("2: it comes again at the version at which it went", x.add(1, 1, 1, 3), 1);
        due("2: there before", x.range(0, -1, -1, 2), 1);
        due("2: there then, once", x.range(0, -1, -1, 3), 1);
        due("2: on one page, once", x.page(0, 0, 0), 1);
        due("2: three events", x.count(1), 3);
    }

    private static void atTheCut() {
        TripleOrders x = new TripleOrders(9);
        x.cut(40);
        due("2: at a cut above all events", x.add(1, 1, 1, 40), 1);
        due("2: there", x.range(0, -1, -1, 40), 1);
    }

    // ---- 3: remove

    private static void removals() {
        goesAsItCame();
        goesAtTheLastVersion();
        goesInTheLastRow();
        notThereLeavesNow();
        onlyTheOneThatIsTold();
        othersOfTheSameTermsStay();
    }

    private static void goesAsItCame() {
        TripleOrders x = new TripleOrders(9);
        x.add(1, 1, 1, 5);
        due("3: it goes at the version at which it came", x.remove(1, 1, 1, 5), 1);
        due("3: it was never there", x.range(0, -1, -1, 5), 0);
        due("3: nor later", x.range(0, -1, -1, 6), 0);
        due("3: two events", x.count(1), 2);
    }

    private static void goesAtTheLastVersion() {
        TripleOrders x = new TripleOrders(9);
        x.add(1, 1, 1, 0);
        due("3: it goes at 1000000", x.remove(1, 1, 1, LAST), 1);
        due("3: there just before", x.range(0, -1, -1, LAST - 1), 1);
        due("3: not there at 1000000", x.range(0, -1, -1, LAST), 0);
    }

    private static void goesInTheLastRow() {
        TripleOrders x = new TripleOrders(2);
        x.add(1, 1, 1, 0);
        due("3: the last row", x.remove(1, 1, 1, 0), 1);
        due("3: no triple", x.count(0), 0);
        due("3: and no room", x.add(1, 1, 1, 0), -4);
        due("3: not there, whatever the room", x.remove(1, 1, 1, 0), 0);
    }

    private static void notThereLeavesNow() {
        TripleOrders x = new TripleOrders(9);
        x.add(1, 1, 1, 7);
        due("3: not there", x.remove(2, 2, 2, 50), 0);
        due("3: now stays", x.count(3), 7);
        due("3: so that 7 is still good", x.remove(1, 1, 1, 7), 1);
    }

    /** Only the log of the triple that goes is ended, not that of one that shares some of its terms. */
    private static void othersOfTheSameTermsStay() {
        int[][] near = {{1, 2, 9}, {1, 9, 3}, {9, 2, 3}, {9, 9, 3}, {1, 9, 9}, {9, 2, 9}};
        for (int[] t : near) {
            TripleOrders x = new TripleOrders(9);
            x.add(1, 2, 3, 0);
            x.add(t[0], t[1], t[2], 0);
            x.remove(1, 2, 3, 1);
            due("3: the other one stays", x.range(0, t[0], t[1], 1), 1);
            due("3: it is the other one", x.at(0, 2), t[2]);
            due("3: both were there", x.range(0, -1, -1, 0), 2);
        }
    }

    private static void onlyTheOneThatIsTold() {
        TripleOrders x = new TripleOrders(9);
        x.add(1, 2, 3, 0);
        int[][] others = {{1, 2, 2}, {1, 2, 4}, {1, 1, 3}, {1, 3, 3}, {0, 2, 3}, {2, 2, 3}, {3, 2, 1}, {1, 3, 2}, {2, 1, 3}};
        for (int[] t : others) {
            due("3: another one", x.remove(t[0], t[1], t[2], 0), 0);
        }
        due("3: it is there still", x.count(0), 1);
    }

    // ---- pages: a triple (i, i, i) stands at the same place in all six orders

    private static TripleOrders pagesOf(int... terms) {
        TripleOrders x = new TripleOrders(400);
        come(x, terms);
        return x;
    }

    private static void come(TripleOrders x, int... terms) {
        for (int i : terms) {
            due("2: comes " + i, x.add(i, i, i, 0), 1);
        }
    }

    private static void go(TripleOrders x, int... terms) {
        for (int i : terms) {
            due("3: goes " + i, x.remove(i, i, i, 0), 1);
        }
    }

    private static int[] steps(int from, int step, int many) {
        int[] terms = new int[many];
        for (int i = 0; i < many; i++) {
            terms[i] = from + i * step;
        }
        return terms;
    }

    private static void pagesAre(String call, TripleOrders x, int... lengths) {
        for (int order = 0; order < 6; order++) {
            due(call + ": pages(" + order + ")", x.pages(order), lengths.length);
            for (int k = 0; k < lengths.length; k++) {
                due(call + ": length of page " + k + " of " + order, x.page(order, k, 0), lengths[k]);
            }
            due(call + ": none behind in " + order, x.page(order, lengths.length, 0), NONE);
        }
    }

    private static void firstsAre(String call, TripleOrders x, int... firsts) {
        for (int order = 0; order < 6; order++) {
            for (int k = 0; k < firsts.length; k++) {
                due(call + ": first of page " + k + " of " + order, x.page(order, k, 1), firsts[k]);
            }
        }
    }

    private static void comingToPages() {
        toNoPage();
        sixteenAreOnePage();
        seventeenthBehindAll();
        seventeenthBeforeAll();
        seventeenthAmongThem();
        belowAllToTheFirstPage();
        belowAllToAFullFirstPage();
        betweenPagesToTheOneBefore();
        justAboveAPagesFirst();
        wherePageBeganOnce();
        aMiddlePageSplits();
        aComingJoinsNothing();
        fourHundredRising();
        fourHundredFalling();
    }

    private static void toNoPage() {
        TripleOrders x = pagesOf(500);
        pagesAre("2: to a new page", x, 1);
        firstsAre("2: to a new page", x, 500);
    }

    private static void sixteenAreOnePage() {
        TripleOrders x = pagesOf(steps(0, 10, 16));
        pagesAre("2: sixteen", x, 16);
        firstsAre("2: sixteen", x, 0);
    }

    private static void seventeenthBehindAll() {
        TripleOrders x = pagesOf(steps(0, 10, 17));
        pagesAre("2: seventeen", x, 9, 8);
        firstsAre("2: seventeen", x, 0, 90);
    }

    private static void seventeenthBeforeAll() {
        TripleOrders x = pagesOf(steps(160, -10, 17));
        pagesAre("2: seventeen, falling", x, 9, 8);
        firstsAre("2: seventeen, falling", x, 0, 90);
    }

    private static void seventeenthAmongThem() {
        TripleOrders ninth = pagesOf(steps(0, 10, 16));
        come(ninth, 75);
        pagesAre("2: the seventeenth is the last that stays", ninth, 9, 8);
        firstsAre("2: the seventeenth is the last that stays", ninth, 0, 80);
        TripleOrders tenth = pagesOf(steps(0, 10, 16));
        come(tenth, 85);
        pagesAre("2: the seventeenth begins the new page", tenth, 9, 8);
        firstsAre("2: the seventeenth begins the new page", tenth, 0, 85);
    }

    private static void belowAllToTheFirstPage() {
        TripleOrders x = pagesOf(steps(10, 10, 17));
        come(x, 0);
        pagesAre("2: below all", x, 10, 8);
        firstsAre("2: below all", x, 0, 100);
    }

    private static void belowAllToAFullFirstPage() {
        TripleOrders x = pagesOf(steps(10, 10, 17));
        come(x, 11, 12, 13, 14, 15, 16, 17);
        pagesAre("2: a full first page", x, 16, 8);
        come(x, 0);
        pagesAre("2: below all, to a full page", x, 9, 8, 8);
        firstsAre("2: below all, to a full page", x, 0, 20, 100);
    }

    private static void betweenPagesToTheOneBefore() {
        TripleOrders x = pagesOf(steps(0, 10, 17));
        come(x, 89);
        pagesAre("2: just below a page's first", x, 10, 8);
        firstsAre("2: just below a page's first", x, 0, 90);
    }

    private static void justAboveAPagesFirst() {
        TripleOrders x = pagesOf(steps(0, 10, 17));
        come(x, 91);
        pagesAre("2: just above a page's first", x, 9, 9);
        TripleOrders y = new TripleOrders(400);
        for (int i = 0; i < 17; i++) {
            y.add(5, 5, 2 * i, 0);
        }
        y.add(5, 5, 17, 0);
        due("2: by the third term, below the first", y.page(0, 0, 0), 10);
        y.add(5, 5, 19, 0);
        due("2: by the third term, above the first", y.page(0, 1, 0), 9);
    }

    /** The page begins later once its first has gone, so the same triple comes to the page before. */
    private static void wherePageBeganOnce() {
        TripleOrders x = pagesOf(steps(0, 10, 17));
        go(x, 90);
        pagesAre("3: a page's first goes", x, 9, 7);
        firstsAre("3: a page's first goes", x, 0, 100);
        come(x, 90);
        pagesAre("2: it comes to the page before", x, 10, 7);
        firstsAre("2: it comes to the page before", x, 0, 100);
    }

    private static void aMiddlePageSplits() {
        TripleOrders x = pagesOf(steps(0, 10, 26));
        pagesAre("2: three pages", x, 9, 9, 8);
        come(x, 91, 92, 93, 94, 95, 96, 97);
        pagesAre("2: the middle one is full", x, 9, 16, 8);
        come(x, 98);
        pagesAre("2: the middle one splits", x, 9, 9, 8, 8);
        firstsAre("2: the middle one splits", x, 0, 90, 100, 180);
    }

    private static void aComingJoinsNothing() {
        TripleOrders x = pagesOf(steps(0, 10, 17));
        come(x, 81, 82, 83, 84, 85, 86, 87);
        go(x, 100, 110, 120, 130, 140, 150, 160);
        pagesAre("3: sixteen and one", x, 16, 1);
        come(x, 88);
        pagesAre("2: eight and one stay apart", x, 9, 8, 1);
        go(x, 0);
        pagesAre("3: so they do when another page loses one", x, 8, 8, 1);
        go(x, 88);
        pagesAre("3: and not when one of them does", x, 8, 8);
        TripleOrders y = pagesOf(steps(0, 10, 17));
        come(y, 151, 152, 153, 154, 155, 156, 157, 158);
        go(y, 10, 20, 30, 40, 50, 60, 70, 80);
        pagesAre("3: one and sixteen", y, 1, 16);
        come(y, 159);
        pagesAre("2: one and nine stay apart", y, 1, 9, 8);
        go(y, 160);
        pagesAre("3: so they do when the one behind loses one", y, 1, 9, 7);
        go(y, 90);
        pagesAre("3: and the one before is taken", y, 9, 7);
        firstsAre("3: and the one before is taken", y, 0, 153);
    }

    private static void fourHundredRising() {
        TripleOrders x = pagesOf(steps(0, 2, 400));
        for (int order = 0; order < 6; order++) {
            due("2: 400 rising, order " + order, x.pages(order), 44);
        }
        for (int k = 0; k < 44; k++) {
            due("2: 400 rising, page " + k, x.page(k % 6, k, 0), k == 43 ? 13 : 9);
            due("2: 400 rising, first of page " + k, x.page(k % 6, k, 3), 18 * k);
        }
    }

    private static void fourHundredFalling() {
        TripleOrders x = pagesOf(steps(798, -2, 400));
        for (int order = 0; order < 6; order++) {
            due("2: 400 falling, order " + order, x.pages(order), 49);
        }
        for (int k = 0; k < 49; k++) {
            due("2: 400 falling, page " + k, x.page(k % 6, k, 0), k == 0 ? 16 : 8);
        }
    }

    private static void goingFromPages() {
        theOnlyTripleGoes();
        elevenStayApartFromTheFront();
        elevenStayApartFromTheBack();
        theOneBehindFirst();
        theOneBeforeIfTheOneBehindIsTooLong();
        emptiedFirstPage();
        emptiedMiddlePage();
        emptiedLastPage();
        joinedPageSplitsAgain();
        allGo();
    }

    private static void theOnlyTripleGoes() {
        TripleOrders x = pagesOf(3);
        go(x, 3);
        pagesAre("3: the only one", x);
        come(x, 4);
        pagesAre("2: to a new page again", x, 1);
        firstsAre("2: to a new page again", x, 4);
    }

    private static void elevenStayApartFromTheFront() {
        TripleOrders x = pagesOf(steps(0, 10, 17));
        go(x, 0, 10, 20, 30, 40, 50);
        pagesAre("3: eleven together", x, 3, 8);
        firstsAre("3: eleven together", x, 60, 90);
        go(x, 60);
        pagesAre("3: ten together", x, 10);
        firstsAre("3: ten together", x, 70);
    }

    private static void elevenStayApartFromTheBack() {
        TripleOrders x = pagesOf(steps(0, 10, 17));
        go(x, 160, 150, 140, 130, 120, 110);
        pagesAre("3: eleven together, from the back", x, 9, 2);
        go(x, 100);
        pagesAre("3: ten together, from the back", x, 10);
        firstsAre("3: ten together, from the back", x, 0);
        go(x, 90, 80);
        pagesAre("3: one page has none to join", x, 8);
    }

    private static void theOneBehindFirst() {
        TripleOrders x = pagesOf(steps(0, 10, 26));
        go(x, 0, 10, 20, 30, 40, 50);
        go(x, 180, 190, 200, 210, 220);
        go(x, 90);
        pagesAre("3: with each neighbour eleven", x, 3, 8, 3);
        go(x, 100);
        pagesAre("3: with each neighbour ten", x, 3, 10);
        firstsAre("3: with each neighbour ten", x, 60, 110);
    }

    private static void theOneBeforeIfTheOneBehindIsTooLong() {
        TripleOrders x = pagesOf(steps(0, 10, 26));
        go(x, 0, 10, 20, 30, 40, 50);
        go(x, 180, 190, 200, 210);
        go(x, 90);
        pagesAre("3: eleven before, twelve behind", x, 3, 8, 4);
        go(x, 100);
        pagesAre("3: ten before, eleven behind", x, 10, 4);
        firstsAre("3: ten before, eleven behind", x, 60, 220);
    }

    private static void emptiedFirstPage() {
        TripleOrders x = pagesOf(steps(0, 10, 17));
        come(x, 151, 152);
        go(x, 80, 70, 60, 50, 40, 30, 20, 10);
        pagesAre("3: one and ten", x, 1, 10);
        go(x, 0);
        pagesAre("3: the first is gone", x, 10);
        firstsAre("3: the first is gone", x, 90);
    }

    private static void emptiedMiddlePage() {
        TripleOrders x = pagesOf(steps(0, 10, 26));
        come(x, 1, 181, 182);
        go(x, 90, 100, 110, 120, 130, 140, 150, 160);
        pagesAre("3: ten, one and ten", x, 10, 1, 10);
        go(x, 170);
        pagesAre("3: the middle one is gone", x, 10, 10);
        firstsAre("3: the middle one is gone", x, 0, 180);
    }

    private static void emptiedLastPage() {
        TripleOrders x = pagesOf(steps(0, 10, 17));
        come(x, 1);
        go(x, 90, 100, 110, 120, 130, 140, 150);
        pagesAre("3: ten and one", x, 10, 1);
        go(x, 160);
        pagesAre("3: the last is gone", x, 10);
        come(x, 170);
        pagesAre("2: above all, to the last that is left", x, 11);
    }

    private static void joinedPageSplitsAgain() {
        TripleOrders x = pagesOf(steps(0, 10, 17));
        go(x, 0, 10, 20, 30, 40, 50, 60);
        come(x, 71, 72, 73, 74, 75, 76);
        pagesAre("2: sixteen again", x, 16);
        come(x, 77);
        pagesAre("2: seventeen again", x, 9, 8);
        firstsAre("2: seventeen again", x, 70, 90);
    }

    private static void allGo() {
        TripleOrders x = pagesOf(steps(0, 1, 100));
        go(x, steps(0, 1, 100));
        pagesAre("3: all have gone", x);
        due("3: no triples", x.count(0), 0);
        due("3: 200 events", x.count(1), 200);
    }

    // ---- 4: range

    private static void ranges() {
        versionsRoundAnEvent();
        sameVersionTwice();
        termsAtTheEndsOfARange();
        zeroIsTold();
        anEmptyRangeReplaces();
        fourHundredAtHand();
        aboveNow();
        atACut();
    }

    private static void versionsRoundAnEvent() {
        TripleOrders x = new TripleOrders(9);
        x.add(1, 2, 3, 10);
        x.remove(1, 2, 3, 20);
        x.add(1, 2, 3, 30);
        int[] versions = {0, 9, 10, 11, 19, 20, 21, 29, 30, 31, LAST};
        int[] wants = {0, 0, 1, 1, 1, 0, 0, 0, 1, 1, 1};
        for (int i = 0; i < versions.length; i++) {
            due("4: at " + versions[i], x.range(0, -1, -1, versions[i]), wants[i]);
            due("4: told, at " + versions[i], x.range(5, 3, 2, versions[i]), wants[i]);
        }
    }

    private static void sameVersionTwice() {
        TripleOrders x = new TripleOrders(9);
        x.add(1, 1, 1, 4);
        x.remove(1, 1, 1, 4);
        due("4: came and went", x.range(0, -1, -1, 4), 0);
        x.add(1, 1, 1, 4);
        due("4: came, went and came", x.range(0, -1, -1, 4), 1);
        due("4: just before", x.range(0, -1, -1, 3), 0);
        x.remove(1, 1, 1, 4);
        due("4: and went", x.range(0, -1, -1, 4), 0);
    }

    private static TripleOrders corners() {
        TripleOrders x = new TripleOrders(30);
        int[] ends = {0, 1, 998, 999};
        for (int a : ends) {
            for (int b : ends) {
                x.add(a, b, 500, 0);
            }
        }
        return x;
    }

    private static void termsAtTheEndsOfARange() {
        TripleOrders x = corners();
        for (int term : new int[] {0, 1, 998, 999}) {
            due("4: a " + term, x.range(0, term, -1, 0), 4);
            due("4: all of one s, " + term, x.at(0, 0) + x.at(3, 0), 2 * term);
            due("4: b 0, a " + term, x.range(0, term, 0, 0), 1);
            due("4: b 999, a " + term, x.range(0, term, 999, 0), 1);
            due("4: just that one", x.at(0, 0) * 1000 + x.at(0, 1), term * 1000 + 999);
        }
        due("4: a 2", x.range(0, 2, -1, 0), 0);
        due("4: b 2", x.range(0, 1, 2, 0), 0);
        due("4: o 500", x.range(4, 500, -1, 0), 16);
    }

    private static void zeroIsTold() {
        TripleOrders x = corners();
        due("4: a 0 is told", x.range(0, 0, -1, 0), 4);
        due("4: b 0 is told", x.range(0, 0, 0, 0), 1);
        due("4: b 0 without a", x.range(0, -1, 0, 0), -3);
        due("4: any", x.range(0, -1, -1, 0), 16);
    }

    private static void anEmptyRangeReplaces() {
        TripleOrders x = corners();
        x.range(0, -1, -1, 0);
        due("4: an empty range", x.range(0, 500, -1, 0), 0);
        due("4: nothing is at hand then", x.at(0, 0), NONE);
        due("4: nothing to seek then", x.seek(0), 0);
    }

    private static void fourHundredAtHand() {
        TripleOrders x = new TripleOrders(400);
        for (int i = 399; i >= 0; i--) {
            x.add(i, 0, 999 - i, 0);
        }
        due("4: all of 400", x.range(0, -1, -1, 0), 400);
        due("5: the first of 400", x.at(0, 2), 999);
        due("5: the last of 400", x.at(399, 0), 399);
        due("5: behind 400", x.at(400, 0), NONE);
        due("6: the last of 400", x.seek(399), 399);
        due("6: behind 400", x.seek(400), 400);
        due("4: the other way round", x.range(4, -1, -1, 0), 400);
        due("5: the last is first", x.at(0, 0), 399);
    }

    private static void aboveNow() {
        TripleOrders x = new TripleOrders(9);
        x.add(1, 1, 1, 3);
        due("4: far above now", x.range(0, -1, -1, LAST), 1);
        due("4: now stays", x.count(3), 3);
    }

    private static void atACut() {
        TripleOrders x = new TripleOrders(9);
        x.add(1, 1, 1, 3);
        x.add(2, 2, 2, 5);
        x.cut(4);
        due("4: just below a cut", x.range(0, -1, -1, 3), -3);
        due("4: at a cut", x.range(0, -1, -1, 4), 1);
        due("4: just above a cut", x.range(0, -1, -1, 5), 2);
        x.clear();
        x.cut(0);
        due("4: at a cut at 0", x.range(0, -1, -1, 0), 0);
    }

    // ---- 5: at

    private static void hands() {
        indexesRoundTheHand();
        handStays();
        termsOfEachOrder();
    }

    private static void indexesRoundTheHand() {
        TripleOrders x = corners();
        x.range(0, 999, -1, 0);
        int[] i = {MIN, -1, 0, 3, 4, 16, MAX};
        int[] wants = {NONE, NONE, 0, 999, NONE, NONE, NONE};
        for (int n = 0; n < i.length; n++) {
            due("5: at(" + i[n] + ", 1)", x.at(i[n], 1), wants[n]);
        }
    }

    private static void handStays() {
        TripleOrders x = corners();
        x.range(0, 0, 0, 0);
        x.remove(0, 0, 500, 1);
        x.cut(1);
        x.seconds(3, 1, 1);
        x.sum(3, 1, 1);
        x.lead(3, -1, -1);
        x.leap(1);
        due("5: it stays at hand", x.at(0, 2), 500);
        due("6: by its own range", x.seek(500), 0);
        due("6: above", x.seek(501), 1);
    }

    private static void termsOfEachOrder() {
        TripleOrders x = new TripleOrders(9);
        x.add(0, 500, 999, 0);
        for (int order = 0; order < 6; order++) {
            x.range(order, -1, -1, 0);
            due("5: s in order " + order, x.at(0, 0), 0);
            due("5: p in order " + order, x.at(0, 1), 500);
            due("5: o in order " + order, x.at(0, 2), 999);
        }
    }

    // ---- 6: seek

    private static void seeks() {
        seekByTheFirst();
        seekByTheSecond();
        seekByTheThird();
        seekInEachOrder();
    }

    private static void seekIs(String call, TripleOrders x, int[] values, int[] wants) {
        for (int i = 0; i < values.length; i++) {
            due(call + ": seek(" + values[i] + ")", x.seek(values[i]), wants[i]);
        }
    }

    private static void seekByTheFirst() {
        TripleOrders x = corners();
        x.range(0, -1, -1, 0);
        seekIs("6: by the first, of several the first", x,
            new int[] {MIN, -1, 0, 1, 2, 998, 999, 1000, MAX}, new int[] {0, 0, 0, 4, 8, 8, 12, 16, 16});
    }

    private static void seekByTheSecond() {
        TripleOrders x = corners();
        x.add(999, 998, 999, 0);
        x.range(0, 999, -1, 0);
        seekIs("6: by the second, of several the first", x,
            new int[] {MIN, -1, 0, 1, 2, 998, 999, 1000, MAX}, new int[] {0, 0, 0, 1, 2, 2, 4, 5, 5});
    }

    private static void seekByTheThird() {
        TripleOrders x = corners();
        x.add(0, 0, 0, 0);
        x.add(0, 0, 999, 0);
        x.range(0, 0, 0, 0);
        seekIs("6: by the third", x,
            new int[] {MIN, -1, 0, 1, 500, 501, 999, 1000, MAX}, new int[] {0, 0, 0, 1, 1, 2, 2, 3, 3});
        TripleOrders low = corners();
        low.range(0, 999, 999, 0);
        seekIs("6: by the third, one alone", low, new int[] {0, 500, 501, 999, MAX}, new int[] {0, 0, 1, 1, 1});
    }

    private static void seekInEachOrder() {
        TripleOrders x = new TripleOrders(9);
        x.add(10, 20, 30, 0);
        int[][] inOrder = {{10, 20, 30}, {10, 30, 20}, {20, 10, 30}, {20, 30, 10}, {30, 10, 20}, {30, 20, 10}};
        for (int order = 0; order < 6; order++) {
            int[] t = inOrder[order];
            x.range(order, -1, -1, 0);
            due("6: first of " + order, x.seek(t[0]) * 10 + x.seek(t[0] + 1), 1);
            x.range(order, t[0], -1, 0);
            due("6: second of " + order, x.seek(t[1]) * 10 + x.seek(t[1] + 1), 1);
            x.range(order, t[0], t[1], 0);
            due("6: third of " + order, x.seek(t[2]) * 10 + x.seek(t[2] + 1), 1);
        }
    }

    // ---- 7 and 8: seconds, sum

    private static void secondsAndSums() {
        countedOnce();
        fourHundredOfOneFirst();
        firstsAtTheirEnds();
        versionsOfSums();
        sumOfZeros();
    }

    private static void countedOnce() {
        TripleOrders x = new TripleOrders(30);
        for (int i = 0; i < 20; i++) {
            x.add(7, i % 2, i, 0);
        }
        due("7: two seconds of twenty", x.seconds(0, 7, 0), 2);
        due("7: twenty seconds", x.seconds(1, 7, 0), 20);
        due("8: thirds of all twenty", x.sum(0, 7, 0), 190);
        due("8: thirds are summed each time", x.sum(1, 7, 0), 10);
    }

    private static void fourHundredOfOneFirst() {
        TripleOrders x = new TripleOrders(400);
        for (int i = 0; i < 400; i++) {
            x.add(999, 999 - i, 999, 0);
        }
        due("7: 400 seconds", x.seconds(0, 999, 0), 400);
        due("7: one second", x.seconds(1, 999, 0), 1);
        due("8: 400 times 999", x.sum(0, 999, 0), 399600);
    }

    private static void firstsAtTheirEnds() {
        TripleOrders x = corners();
        for (int a : new int[] {0, 1, 998, 999}) {
            due("7: a " + a, x.seconds(0, a, 0), 4);
            due("8: a " + a, x.sum(0, a, 0), 2000);
        }
        due("7: none has it", x.seconds(0, 2, 0), 0);
        due("8: none has it", x.sum(0, 2, 0), 0);
        due("7: o 500", x.seconds(4, 500, 0), 4);
        due("8: o 500", x.sum(4, 500, 0), 4 * 1998);
    }

    private static void versionsOfSums() {
        TripleOrders x = new TripleOrders(9);
        x.add(1, 2, 3, 10);
        x.add(1, 4, 5, 20);
        x.remove(1, 2, 3, 30);
        int[] versions = {0, 9, 10, 19, 20, 29, 30, LAST};
        int[] seconds = {0, 0, 1, 1, 2, 2, 1, 1};
        int[] sums = {0, 0, 3, 3, 8, 8, 5, 5};
        for (int i = 0; i < versions.length; i++) {
            due("7: at " + versions[i], x.seconds(0, 1, versions[i]), seconds[i]);
            due("8: at " + versions[i], x.sum(0, 1, versions[i]), sums[i]);
        }
        x.cut(20);
        due("7: just below a cut", x.seconds(0, 1, 19), -3);
        due("8: just below a cut", x.sum(0, 1, 19), -3);
        due("7: at a cut", x.seconds(0, 1, 20), 2);
        due("8: at a cut", x.sum(0, 1, 20), 8);
    }

    private static void sumOfZeros() {
        TripleOrders x = new TripleOrders(9);
        x.add(1, 2, 0, 0);
        due("8: a third term of 0", x.sum(0, 1, 0), 0);
        due("7: has a second", x.seconds(0, 1, 0), 1);
    }

    // ---- 9 to 11: lead, leap, found

    private static void leadsAndLeaps() {
        fourLeads();
        fourLeadsAnew();
        leadsAtTheirEnds();
        leapWithoutLeads();
        leapOverOne();
        leapOverOneFourTimes();
        leapOverAnEmptyOne();
        leapOverWhatNoneShare();
        leapOverThreeOfFour();
        leapFindsEachOnce();
        leapFindsFourHundred();
        leapVersions();
        leadsBeforeACut();
        foundRoundItsEnds();
        foundStays();
    }

    private static void fourLeads() {
        TripleOrders x = new TripleOrders(9);
        for (int i = 1; i <= 4; i++) {
            due("9: lead " + i, x.lead(0, -1, -1), i);
            due("9: there are " + i, x.count(2), i);
        }
        due("9: a fifth", x.lead(0, -1, -1), -4);
        due("9: there are four", x.count(2), 4);
    }

    private static void fourLeadsAnew() {
        TripleOrders x = new TripleOrders(9);
        for (int i = 0; i < 4; i++) {
            x.lead(0, -1, -1);
        }
        due("10: four leads", x.leap(0), 0);
        due("10: none then", x.count(2), 0);
        due("9: the first again", x.lead(0, -1, -1), 1);
    }

    private static void leadsAtTheirEnds() {
        TripleOrders x = corners();
        int[][] leads = {{0, 0, 0}, {5, 500, 999}, {0, 999, 999}, {4, 500, 0}};
        int[] wants = {500, 0, 500, 0};
        int[] many = {1, 4, 1, 4};
        for (int i = 0; i < leads.length; i++) {
            due("9: a lead of ends", x.lead(leads[i][0], leads[i][1], leads[i][2]), 1);
            due("10: its numbers", x.leap(0), many[i]);
            due("11: the first of them", x.found(0), wants[i]);
        }
    }

    private static void leapWithoutLeads() {
        TripleOrders x = corners();
        x.lead(0, -1, -1);
        x.leap(0);
        due("11: found", x.found(0), 0);
        due("10: without leads", x.leap(0), 0);
        due("11: none is found then", x.found(0), NONE);
    }

    private static void foundAre(String call, TripleOrders x, int... numbers) {
        for (int i = 0; i < numbers.length; i++) {
            due(call + ": found(" + i + ")", x.found(i), numbers[i]);
        }
        due(call + ": none behind", x.found(numbers.length), NONE);
    }

    private static void leapOverOne() {
        TripleOrders x = corners();
        x.lead(0, -1, -1);
        due("10: first terms", x.leap(0), 4);
        foundAre("10: first terms", x, 0, 1, 998, 999);
        x.lead(0, 999, -1);
        due("10: second terms", x.leap(0), 4);
        foundAre("10: second terms", x, 0, 1, 998, 999);
        x.lead(0, 999, 999);
        due("10: third terms", x.leap(0), 1);
        foundAre("10: third terms", x, 500);
    }

    private static void leapOverOneFourTimes() {
        TripleOrders x = corners();
        for (int i = 0; i < 4; i++) {
            x.lead(0, 1, -1);
        }
        due("10: one lead four times", x.leap(0), 4);
        foundAre("10: one lead four times", x, 0, 1, 998, 999);
    }

    private static void leapOverAnEmptyOne() {
        for (int empty = 0; empty < 4; empty++) {
            TripleOrders x = corners();
            for (int i = 0; i < 4; i++) {
                x.lead(0, i == empty ? 500 : 1, -1);
            }
            due("10: lead " + empty + " has none", x.leap(0), 0);
            due("10: so nothing is found", x.found(0), NONE);
            due("10: and the leads are none", x.count(2), 0);
        }
    }

    private static void leapOverWhatNoneShare() {
        TripleOrders x = corners();
        x.lead(0, 1, -1);
        x.lead(0, 1, 1);
        due("10: 0 1 998 999 and 500", x.leap(0), 0);
    }

    /** A number that all but one lead have, whichever that is, is not found. */
    private static void leapOverThreeOfFour() {
        for (int without = 0; without < 4; without++) {
            TripleOrders x = new TripleOrders(30);
            for (int s = 0; s < 4; s++) {
                x.add(s, 7, 0, 0);
                if (s != without) {
                    x.add(s, 5, 0, 0);
                }
                x.add(s, 10 + s, 0, 0);
            }
            for (int s = 0; s < 4; s++) {
                x.lead(0, s, -1);
            }
            due("10: all but " + without + " have 5", x.leap(0), 1);
            foundAre("10: all but " + without + " have 5", x, 7);
        }
    }

    private static void leapFindsEachOnce() {
        TripleOrders x = new TripleOrders(30);
        for (int i = 0; i < 20; i++) {
            x.add(i % 3 * 499, i, 0, 0);
        }
        x.lead(0, -1, -1);
        due("10: each number once", x.leap(0), 3);
        foundAre("10: each number once, rising", x, 0, 499, 998);
    }

    private static void leapFindsFourHundred() {
        TripleOrders x = new TripleOrders(400);
        for (int i = 0; i < 400; i++) {
            x.add(5, 999 - i, 5, 0);
        }
        x.lead(0, 5, -1);
        x.lead(5, 5, -1);
        due("10: 400 numbers", x.leap(0), 400);
        due("11: the first", x.found(0), 600);
        due("11: the last", x.found(399), 999);
        due("11: behind", x.found(400), NONE);
    }

    private static void leapVersions() {
        TripleOrders x = new TripleOrders(9);
        x.add(1, 2, 3, 10);
        x.remove(1, 2, 3, 20);
        int[] versions = {0, 9, 10, 19, 20, LAST};
        int[] wants = {0, 0, 1, 1, 0, 0};
        for (int i = 0; i < versions.length; i++) {
            x.lead(0, 1, -1);
            due("10: at " + versions[i], x.leap(versions[i]), wants[i]);
        }
        x.add(1, 2, 3, 30);
        x.cut(30);
        x.lead(0, 1, -1);
        due("10: just below a cut", x.leap(29), -3);
        due("10: at a cut", x.leap(30), 1);
    }

    private static void leadsBeforeACut() {
        TripleOrders x = new TripleOrders(9);
        x.lead(0, 1, -1);
        x.add(1, 2, 3, 10);
        x.cut(50);
        due("10: a lead told before what it leads to", x.leap(50), 1);
        foundAre("10: a lead told before what it leads to", x, 2);
    }

    private static void foundRoundItsEnds() {
        TripleOrders x = corners();
        x.lead(0, -1, -1);
        x.leap(0);
        int[] i = {MIN, -1, 0, 3, 4, MAX};
        int[] wants = {NONE, NONE, 0, 999, NONE, NONE};
        for (int n = 0; n < i.length; n++) {
            due("11: found(" + i[n] + ")", x.found(i[n]), wants[n]);
        }
    }

    private static void foundStays() {
        TripleOrders x = corners();
        x.lead(0, 0, 0);
        x.leap(0);
        x.remove(0, 0, 500, 1);
        x.range(0, -1, -1, 1);
        x.seconds(0, 1, 1);
        x.sum(0, 1, 1);
        x.lead(0, 1, -1);
        x.cut(1);
        x.leap(0);
        foundAre("11: it stays until the next leap", x, 500);
    }

    // ---- 12: cut

    private static void cuts() {
        cutWithoutEvents();
        cutRoundAComing();
        cutRoundAGoing();
        cutOfTheSameVersion();
        cutAtTheSameAgain();
        cutAboveNow();
        cutAtTheLastVersion();
        cutFreesRoom();
        cutOfManyComings();
        cutTakesAllOfOne();
        cutLeavesPages();
        cutLeavesWhatIsAskedFromThereOn();
        cutLeavesWholeTriples();
    }

    private static void cutWithoutEvents() {
        TripleOrders x = new TripleOrders(9);
        due("12: no cut yet", x.count(4), -1);
        due("12: at 0, without events", x.cut(0), 0);
        due("12: the cut is at 0", x.count(4), 0);
        due("12: now is 0", x.count(3), 0);
        due("12: 0 is not below it", x.range(0, -1, -1, 0) + x.leap(0) + x.seconds(0, 0, 0), 0);
        due("12: nor for what comes", x.add(0, 0, 0, 0), 1);
    }

    private static void cutRoundAComing() {
        int[] versions = {9, 10, 11};
        for (int version : versions) {
            TripleOrders x = new TripleOrders(9);
            x.add(1, 1, 1, 10);
            due("12: a coming at 10, cut at " + version, x.cut(version), 0);
            due("12: its event stays", x.count(1), 1);
            due("12: it is there at 11", x.range(0, -1, -1, 11), 1);
        }
    }

    private static void cutRoundAGoing() {
        int[] versions = {19, 20, 21};
        int[] gone = {0, 2, 2};
        for (int i = 0; i < versions.length; i++) {
            TripleOrders x = new TripleOrders(9);
            x.add(1, 1, 1, 10);
            x.remove(1, 1, 1, 20);
            due("12: a going at 20, cut at " + versions[i], x.cut(versions[i]), gone[i]);
            due("12: the events that stay", x.count(1), 2 - gone[i]);
            due("12: at the cut", x.range(0, -1, -1, versions[i]), gone[i] == 0 ? 1 : 0);
            due("12: at 21", x.range(0, -1, -1, 21), 0);
        }
    }

    private static void cutOfTheSameVersion() {
        TripleOrders x = new TripleOrders(9);
        x.add(1, 1, 1, 5);
        x.remove(1, 1, 1, 5);
        x.add(1, 1, 1, 5);
        x.add(2, 2, 2, 5);
        x.remove(2, 2, 2, 5);
        due("12: below them", x.cut(4), 0);
        due("12: at them the latest coming stays", x.cut(5), 4);
        due("12: one event", x.count(1), 1);
        due("12: one triple", x.range(0, -1, -1, 5), 1);
    }

    private static void cutAtTheSameAgain() {
        TripleOrders x = new TripleOrders(9);
        x.add(1, 1, 1, 5);
        x.cut(5);
        due("12: at the latest cut", x.cut(5), 0);
        x.remove(1, 1, 1, 5);
        due("12: what went since", x.cut(5), 2);
        due("12: just below the latest cut", x.cut(4), -3);
    }

    private static void cutAboveNow() {
        TripleOrders x = new TripleOrders(9);
        x.add(1, 1, 1, 5);
        due("12: above now", x.cut(8), 0);
        due("12: now is not below it", x.count(3), 8);
        due("12: just below", x.remove(1, 1, 1, 7), -3);
        due("12: at the cut", x.remove(1, 1, 1, 8), 1);
        TripleOrders y = new TripleOrders(9);
        y.add(1, 1, 1, 5);
        y.add(2, 2, 2, 9);
        y.cut(8);
        due("12: below now, which stays", y.count(3), 9);
        due("12: below now, above the cut", y.add(3, 3, 3, 8), -3);
    }

    private static void cutAtTheLastVersion() {
        TripleOrders x = new TripleOrders(9);
        x.add(1, 1, 1, 5);
        due("12: at 1000000", x.cut(LAST), 0);
        due("12: just below it", x.range(0, -1, -1, LAST - 1), -3);
        due("12: at it", x.range(0, -1, -1, LAST), 1);
        due("12: now", x.count(3), LAST);
        due("12: it can go still", x.remove(1, 1, 1, LAST), 1);
        due("12: and be cut off", x.cut(LAST), 2);
    }

    private static void cutFreesRoom() {
        TripleOrders x = new TripleOrders(3);
        x.add(1, 1, 1, 0);
        x.remove(1, 1, 1, 1);
        x.add(2, 2, 2, 2);
        due("12: full", x.add(3, 3, 3, 2), -4);
        due("12: two rows are free", x.cut(1), 2);
        due("12: one is used", x.add(3, 3, 3, 2), 1);
        due("12: and the other", x.add(4, 4, 4, 2), 1);
        due("12: full again", x.add(5, 5, 5, 2), -4);
        due("12: all are there", x.range(0, -1, -1, 2), 3);
    }

    private static void cutOfManyComings() {
        int[] versions = {0, 5, 10, 15, 20, 25, 30};
        int[] gone = {0, 2, 2, 4, 4, 6, 6};
        for (int i = 0; i < versions.length; i++) {
            TripleOrders x = new TripleOrders(9);
            for (int n = 0; n < 3; n++) {
                x.add(1, 1, 1, 10 * n);
                x.remove(1, 1, 1, 10 * n + 5);
            }
            x.add(1, 1, 1, 30);
            due("12: of three times come and gone, cut at " + versions[i], x.cut(versions[i]), gone[i]);
            due("12: what is left of seven", x.count(1), 7 - gone[i]);
            due("12: there at 30", x.range(0, -1, -1, 30), 1);
        }
    }

    private static void cutTakesAllOfOne() {
        TripleOrders x = new TripleOrders(9);
        x.add(1, 1, 1, 3);
        x.remove(1, 1, 1, 9);
        due("12: all events", x.cut(9), 2);
        due("12: no event", x.count(1), 0);
        due("12: now is that of the cut", x.count(3), 9);
        due("12: it can come again", x.add(1, 1, 1, 9), 1);
        due("12: it is there", x.range(0, 1, 1, 9), 1);
    }

    private static void cutLeavesPages() {
        TripleOrders x = pagesOf(steps(0, 10, 17));
        go(x, 0);
        int before = x.mark(3, 0);
        due("12: a coming and its going", x.cut(0), 2);
        pagesAre("12: the pages stay", x, 8, 8);
        due("12: the mark stays", x.mark(3, 0), before);
        due("12: the triples stay", x.count(0), 16);
    }

    private static void cutLeavesWhatIsAskedFromThereOn() {
        for (int cut = 0; cut <= 40; cut += 4) {
            TripleOrders x = new TripleOrders(60);
            TripleOrders uncut = new TripleOrders(60);
            for (int i = 0; i < 40; i++) {
                int s = i * 7 % 10;
                if (x.add(s, s, s, i) == 0) {
                    x.remove(s, s, s, i);
                    uncut.remove(s, s, s, i);
                } else {
                    uncut.add(s, s, s, i);
                }
            }
            x.cut(cut);
            for (int version = cut; version <= 41; version++) {
                due("12: cut at " + cut + ", asked at " + version,
                    x.range(0, -1, -1, version), uncut.range(0, -1, -1, version));
            }
        }
    }

    private static void cutLeavesWholeTriples() {
        TripleOrders x = new TripleOrders(9);
        x.add(1, 2, 3, 0);
        x.add(1, 2, 4, 1);
        x.remove(1, 2, 3, 2);
        x.add(5, 6, 7, 3);
        x.add(8, 6, 7, 9);
        due("12: the first of five is gone", x.cut(2), 2);
        due("12: three are left", x.range(0, -1, -1, 9), 3);
        int[] wants = {1, 2, 4, 5, 6, 7, 8, 6, 7};
        for (int i = 0; i < wants.length; i++) {
            due("12: at(" + i / 3 + ", " + i % 3 + ") of what is left", x.at(i / 3, i % 3), wants[i]);
        }
        due("12: 3 is the version of the second still", x.range(0, -1, -1, 2), 1);
        due("12: 9 is the version of the third still", x.range(0, -1, -1, 8), 2);
    }

    // ---- 13 to 15: pages, page, mark

    private static void looksAtPages() {
        pagesRoundTheirEnds();
        termsOfAPagesFirst();
        markOfZeros();
        marksRoundTheirEnds();
        marksWrapAround();
    }

    private static void pagesRoundTheirEnds() {
        TripleOrders x = pagesOf(steps(0, 10, 17));
        int[] k = {MIN, -1, 0, 1, 2, MAX};
        int[] lengths = {NONE, NONE, 9, 8, NONE, NONE};
        int[] firsts = {NONE, NONE, 0, 90, NONE, NONE};
        for (int n = 0; n < k.length; n++) {
            for (int order = 0; order < 6; order++) {
                due("14: length of " + k[n], x.page(order, k[n], 0), lengths[n]);
                for (int what = 1; what < 4; what++) {
                    due("14: term " + what + " of " + k[n], x.page(order, k[n], what), firsts[n]);
                }
            }
        }
    }

    private static void termsOfAPagesFirst() {
        TripleOrders x = new TripleOrders(9);
        x.add(0, 500, 999, 0);
        int[][] inOrder = {
            {0, 500, 999}, {0, 999, 500}, {500, 0, 999}, {500, 999, 0}, {999, 0, 500}, {999, 500, 0}};
        for (int order = 0; order < 6; order++) {
            for (int what = 1; what < 4; what++) {
                due("14: term " + what + " by order " + order, x.page(order, 0, what), inOrder[order][what - 1]);
            }
            due("15: mark by order " + order, x.mark(order, 0), markDue(inOrder[order]));
        }
    }

    /** The document's words on whole numbers, cut to 32 bits at each step. */
    private static int markDue(int[] terms) {
        long m = 0;
        for (int term : terms) {
            long mixed = m ^ term;
            long turned = (mixed * 2048 + mixed / 2097152) % 4294967296L;
            m = Long.remainderUnsigned(turned * 0x85EBCA77L, 4294967296L);
        }
        return (int) m;
    }

    /** A page of zeros has the mark 0, as no page has: its length tells them apart. */
    private static void markOfZeros() {
        TripleOrders x = pagesOf(0);
        for (int order = 0; order < 6; order++) {
            due("15: mark of 0 0 0", x.mark(order, 0), 0);
            due("14: its length", x.page(order, 0, 0), 1);
        }
    }

    private static void marksRoundTheirEnds() {
        TripleOrders x = pagesOf(steps(0, 10, 17));
        int[] k = {MIN, -1, 2, MAX};
        for (int order = 0; order < 6; order++) {
            for (int none : k) {
                due("15: mark of " + none, x.mark(order, none), 0);
            }
            due("15: mark of the first", x.mark(order, 0), markDue(thrice(0, 9)));
            due("15: mark of the last", x.mark(order, 1), markDue(thrice(90, 8)));
        }
        for (int noOrder : new int[] {MIN, -1, 6, MAX}) {
            due("15: mark in " + noOrder, x.mark(noOrder, 0), 0);
        }
    }

    private static int[] thrice(int from, int many) {
        int[] terms = new int[3 * many];
        for (int i = 0; i < terms.length; i++) {
            terms[i] = from + i / 3 * 10;
        }
        return terms;
    }

    private static void marksWrapAround() {
        TripleOrders x = new TripleOrders(20);
        int[] terms = new int[48];
        int below = 0;
        for (int i = 0; i < 16; i++) {
            x.add(984 + i, 999 - i, 999, 0);
            terms[3 * i] = 984 + i;
            terms[3 * i + 1] = 999 - i;
            terms[3 * i + 2] = 999;
            int mark = x.mark(0, 0);
            below += mark < 0 ? 1 : 0;
            due("15: mark of " + (i + 1), mark, markDue(Arrays.copyOf(terms, 3 * i + 3)));
        }
        due("15: some marks are below 0", below > 0 && below < 16 ? 1 : 0, 1);
    }

    // ---- 16: count

    private static void counts() {
        countOfTriples();
        countOfNow();
    }

    private static void countOfTriples() {
        TripleOrders x = new TripleOrders(400);
        for (int i = 0; i < 400; i++) {
            x.add(i, i, i, i);
        }
        due("16: 400 triples", x.count(0), 400);
        due("16: 400 events", x.count(1), 400);
        due("16: now", x.count(3), 399);
        x.cut(100);
        due("16: 400 events still", x.count(1), 400);
        due("16: the cut", x.count(4), 100);
    }

    private static void countOfNow() {
        TripleOrders x = new TripleOrders(9);
        due("16: now without an event", x.count(3), 0);
        x.add(1, 1, 1, 6);
        due("16: now of a coming", x.count(3), 6);
        x.remove(1, 1, 1, 8);
        due("16: now of a going", x.count(3), 8);
        x.cut(7);
        due("16: a cut below now", x.count(3), 8);
        x.cut(8);
        due("16: a cut at now, no event is left", x.count(3), 8);
        x.cut(9);
        due("16: a cut above now", x.count(3), 9);
    }

    // ---- 17: clear

    private static void clears() {
        clearOfANewOne();
        clearOfAFullOne();
        clearOfACut();
        clearOfLeads();
        clearOfWhatIsAtHandAndFound();
        clearTwice();
    }

    private static void hasNothing(String call, TripleOrders x) {
        int[] counts = {0, 0, 0, 0, -1};
        for (int what = 0; what < 5; what++) {
            due(call + ": count(" + what + ")", x.count(what), counts[what]);
        }
        for (int order = 0; order < 6; order++) {
            due(call + ": pages(" + order + ")", x.pages(order), 0);
            due(call + ": page(" + order + ", 0, 1)", x.page(order, 0, 1), NONE);
            due(call + ": mark(" + order + ", 0)", x.mark(order, 0), 0);
        }
        due(call + ": at", x.at(0, 0), NONE);
        due(call + ": seek(0)", x.seek(0), 0);
        due(call + ": seek(MAX)", x.seek(MAX), 0);
        due(call + ": found", x.found(0), NONE);
        due(call + ": range at 0", x.range(0, -1, -1, 0), 0);
        due(call + ": range at the last", x.range(0, -1, -1, LAST), 0);
    }

    private static void clearOfANewOne() {
        TripleOrders x = new TripleOrders(9);
        x.clear();
        hasNothing("17: a new one", x);
    }

    private static void clearOfAFullOne() {
        TripleOrders x = new TripleOrders(20);
        for (int i = 0; i < 20; i++) {
            x.add(i, 1, 1, LAST);
        }
        x.clear();
        hasNothing("17: a full one", x);
        for (int i = 0; i < 20; i++) {
            due("17: its room is as it was", x.add(i, 2, 2, 0), 1);
        }
        due("17: and no larger", x.add(20, 2, 2, 0), -4);
    }

    private static void clearOfACut() {
        TripleOrders x = new TripleOrders(9);
        x.cut(LAST);
        x.clear();
        hasNothing("17: a cut", x);
        due("17: version 0 is good again", x.add(1, 1, 1, 0), 1);
        due("17: and can be cut at", x.cut(0), 0);
    }

    private static void clearOfLeads() {
        TripleOrders x = corners();
        for (int i = 0; i < 4; i++) {
            x.lead(0, 500, -1);
        }
        x.clear();
        hasNothing("17: leads", x);
        x.add(1, 2, 3, 0);
        due("17: no leads to leap over", x.leap(0), 0);
        due("17: the first lead", x.lead(0, 1, -1), 1);
        due("17: the old ones are forgotten", x.leap(0), 1);
    }

    private static void clearOfWhatIsAtHandAndFound() {
        TripleOrders x = corners();
        x.lead(0, -1, -1);
        x.leap(0);
        x.range(5, 500, -1, 0);
        x.clear();
        hasNothing("17: at hand and found", x);
    }

    private static void clearTwice() {
        TripleOrders x = corners();
        x.clear();
        x.clear();
        hasNothing("17: twice", x);
        x.add(3, 3, 3, 4);
        x.clear();
        hasNothing("17: and again", x);
    }
}
