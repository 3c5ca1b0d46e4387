/** The example of README.md: each of its lines answers what README.md says it does. */
public final class ReadmeTest {
    private static int wrong = 0;

    private static void due(String call, long got, long want) {
        if (got != want) {
            wrong++;
            System.out.println(call + " answered " + got + ", due is " + want);
        }
    }

    public static void main(String[] args) {
        TripleOrders x = new TripleOrders(60);
        due("add(1, 2, 3, 0)", x.add(1, 2, 3, 0), 1);
        due("add(1, 4, 5, 1)", x.add(1, 4, 5, 1), 1);
        due("remove(1, 2, 3, 2)", x.remove(1, 2, 3, 2), 1);
        due("range(0, 1, -1, 1)", x.range(0, 1, -1, 1), 2);
        due("at(0, 2)", x.at(0, 2), 3);
        due("seek(3)", x.seek(3), 1);
        due("lead(0, 1, -1)", x.lead(0, 1, -1), 1);
        due("leap(1)", x.leap(1), 2);
        due("found(1)", x.found(1), 4);
        due("cut(2)", x.cut(2), 2);
        due("range(0, 1, -1, 1) below the cut", x.range(0, 1, -1, 1), -3);
        due("sum(0, 1, 2)", x.sum(0, 1, 2), 5);
        due("pages(3)", x.pages(3), 1);
        due("page(3, 0, 1)", x.page(3, 0, 1), 4);
        due("count(1)", x.count(1), 1);
        System.out.println(wrong == 0 ? "the example answers as due" : wrong + " answers are not as due");
        if (wrong != 0) {
            System.exit(1);
        }
    }
}
