/** The boundary cases of promises 24 to 26: what is in hand, runs, and sums. */
public final class RunningEdgesTest {
    private static final int NUMBER = Edges.NUMBER;
    private static final int GREATEST = Edges.GREATEST_ROW;
    /** A row of nine ones over 7. */
    private static final int NINE_ONES = 6725601;
    /** Twelve lines of three columns: any two of the nine columns are in just one of them. */
    private static final int[][] LINES = {{0, 1, 2}, {3, 4, 5}, {6, 7, 8}, {0, 3, 6}, {1, 4, 7}, {2, 5, 8},
        {0, 4, 8}, {1, 5, 6}, {2, 3, 7}, {0, 5, 7}, {1, 3, 8}, {2, 4, 6}};

    public static void main(String[] args) throws Exception {
        Edges.run(RunningEdgesTest.class, 24, 26);
    }

    private static void due(String what, int got, int want) {
        Edges.due(what, got, want);
    }

    // ---- promise 24

    @Edge(promise = 24, says = "NUMBER: there is no such one")
    private static void handOfNone() {
        for (int bad : Edges.outside(0, 1)) {
            Edges.refused("which " + bad, Edges::busy, x -> x.hand(bad, 0, 0), NUMBER);
            Edges.refused("i of x " + bad, Edges::busy, x -> x.hand(0, bad, 0), NUMBER);
        }
        for (int bad : Edges.outside(0, 2)) {
            Edges.refused("i of y " + bad, Edges::busy, x -> x.hand(1, bad, 0), NUMBER);
        }
        for (int which = 0; which < 2; which++) {
            int way = which;
            Edges.refused("one number alone", TimesBench::new, x -> x.hand(way, 1, 1), NUMBER);
        }
    }

    @Edge(promise = 24, says = "NUMBER: v isn't 0 to P - 1.")
    private static void handOfNoNumber() {
        for (int bad : Edges.outside(0, 4)) {
            Edges.refused("x " + bad, Edges::busy, x -> x.hand(0, 1, bad), NUMBER);
            Edges.refused("y " + bad, Edges::busy, x -> x.hand(1, 2, bad), NUMBER);
        }
    }

    @Edge(promise = 24, says = "Number i of x (which = 0) or y (1) IN HAND is v: 1.")
    private static void handOfFirstAndLast() {
        for (int index : new int[] {0, 8}) {
            int told = index == 0 ? 1 : 5764801;
            TimesBench x = Edges.onBox(7, 9, 9, 1);
            x.time(told, told, 1);
            due("x is P - 1", x.hand(0, index, 6), 1);
            due("y is P - 1", x.hand(1, index, 6), 1);
            due("36", x.run(1), 1);
            due("again", x.hand(0, index, 5), 1);
            due("30", x.run(1), 2);
            x.change(0, 0, GREATEST - 6 * told);
            due("no other number of x", x.run(1), 0);
            x.change(0, 0, told);
            x.change(0, 1, GREATEST - 6 * told);
            due("no other number of y", x.run(1), 0);
            x.change(0, 1, told);
            due("x is 0", x.hand(0, index, 0), 1);
            due("0", x.run(1), 0);
        }
    }

    @Edge(promise = 24, says = "a ROW x and a ROW y")
    private static void handOfUnlikeSizes() {
        TimesBench x = Edges.onBox(2, 1, 9, 1);
        due("x has one", x.hand(0, 1, 1), NUMBER);
        due("y has nine", x.hand(1, 8, 1), 1);
        due("not ten", x.hand(1, 9, 1), NUMBER);
        x.box(9, 1, 1);
        due("x has nine", x.hand(0, 8, 1), 1);
        due("not ten", x.hand(0, 9, 1), NUMBER);
        due("y has one", x.hand(1, 1, 1), NUMBER);
    }

    // ---- promise 25

    @Edge(promise = 25, says = "NUMBER: another how.")
    private static void runOfAnotherHow() {
        for (int bad : Edges.outside(0, 1)) {
            Edges.refused("how " + bad, Edges::busy, x -> x.run(bad), NUMBER);
        }
    }

    @Edge(promise = 25, says = "z of what is IN HAND")
    private static void runOfNoughts() {
        TimesBench x = Edges.fullBox(7);
        x.time(GREATEST, GREATEST, GREATEST);
        due("noughts by the box", x.run(0), 0);
        due("noughts by the scheme", x.run(1), 0);
        x.hand(0, 8, 6);
        due("y is noughts", x.run(0), 0);
        due("y is noughts", x.run(1), 0);
        TimesBench empty = Edges.on(3);
        empty.hand(0, 0, 2);
        empty.hand(1, 0, 2);
        due("an empty box", empty.run(0), 0);
        due("an empty scheme", empty.run(1), 0);
    }

    @Edge(promise = 25, says = "as a ROW")
    private static void runToGreatestRow() {
        TimesBench x = Edges.onBox(7, 1, 1, 9);
        for (int k = 0; k < 9; k++) {
            x.set(0, 0, k, 6);
        }
        x.time(1, 1, GREATEST);
        x.hand(0, 0, 1);
        x.hand(1, 0, 1);
        due("by the box", x.run(0), GREATEST);
        due("by the scheme", x.run(1), GREATEST);
        x.hand(0, 0, 6);
        due("six times that, by the box", x.run(0), NINE_ONES);
        due("six times that, by the scheme", x.run(1), NINE_ONES);
    }

    @Edge(promise = 25, says = "NUMBERS are 0 to P - 1, and are reckoned modulo P.")
    private static void runOfAllThatMayBe() {
        TimesBench x = Edges.fullBox(7);
        for (int i = 0; i < 9; i++) {
            x.hand(0, i, 6);
            x.hand(1, i, 6);
        }
        x.time(NINE_ONES, NINE_ONES, NINE_ONES);
        // 81 times 36 is 2916, 4 modulo 7.
        due("by the box", x.run(0), 4 * NINE_ONES);
        due("by the scheme", x.run(1), 4 * NINE_ONES);
        x.drop(0);
        for (int t = 0; t < 40; t++) {
            x.time(GREATEST, GREATEST, GREATEST);
        }
        // u x and v y are 324, 2 modulo 7; 40 times 4 times 6 is 960, 1 modulo 7.
        due("by forty times", x.run(1), NINE_ONES);
    }

    // ---- promise 26

    @Edge(promise = 26, says = "NUMBER: another which, how.")
    private static void sumsOfAnother() {
        for (int bad : Edges.outside(0, 1)) {
            Edges.refused("which " + bad, Edges::busy, x -> x.sums(bad, 0), NUMBER);
            Edges.refused("which " + bad, Edges::busy, x -> x.sums(bad, 1), NUMBER);
            Edges.refused("how " + bad, Edges::busy, x -> x.sums(0, bad), NUMBER);
            Edges.refused("how " + bad, Edges::busy, x -> x.sums(1, bad), NUMBER);
            Edges.refused("both " + bad, Edges::busy, x -> x.sums(bad, bad), NUMBER);
        }
    }

    /** A box over P of nine by nine, and times with this row as u and as v. */
    private static TimesBench rowsOf(int p, int... rows) {
        TimesBench x = Edges.onBox(p, 9, 9, 1);
        for (int t = 0; t < rows.length; t++) {
            due("time", x.time(rows[t], rows[t], 1), t);
        }
        return x;
    }

    private static void dueSums(String what, TimesBench x, int plain, int shared) {
        for (int which = 0; which < 2; which++) {
            due(what + ", shared", x.sums(which, 1), shared);
            due(what + ", plain", x.sums(which, 0), plain);
        }
    }

    @Edge(promise = 26, says = "of each, one less than how many numbers aren't 0 (0 of noughts)")
    private static void sumsOfNoughts() {
        dueSums("no times", new TimesBench(), 0, 0);
        dueSums("noughts", rowsOf(7, 0), 0, 0);
        dueSums("noughts twice", rowsOf(7, 0, 0), 0, 0);
        dueSums("one number", rowsOf(7, 6), 0, 0);
        dueSums("noughts take nothing off the others", rowsOf(7, 0, GREATEST, 0), 8, 8);
    }

    @Edge(promise = 26, says = "there are at least two ROWS")
    private static void sumsOfOneAndTwoRows() {
        dueSums("one row shares nothing with itself", rowsOf(2, 511), 8, 8);
        dueSums("two rows share all", rowsOf(2, 511, 511), 16, 8);
        dueSums("two numbers", rowsOf(2, 3, 3), 2, 1);
        dueSums("one number in both", rowsOf(2, 3, 5), 2, 2);
        dueSums("a number alone", rowsOf(2, 1, 1), 0, 0);
    }

    @Edge(promise = 26, says = "r times c (r not 0) at column b")
    private static void sumsByFactors() {
        // 1 1 and 6 6 are by 1; 1 3 and 2 6 by 3; 1 0 has a nought behind.
        dueSums("by 1", rowsOf(7, 8, 48), 2, 1);
        dueSums("by 3", rowsOf(7, 22, 44), 2, 1);
        dueSums("by 1 and by 3", rowsOf(7, 8, 22), 2, 2);
        dueSums("by 0 is none", rowsOf(7, 1, 2, 3), 0, 0);
    }

    @Edge(promise = 26, says = "THE SCHEME is a row of TIMES, numbered from 0 on, at most 40.")
    private static void sumsOfFortyFullRows() {
        TimesBench x = Edges.onBox(7, 9, 9, 1);
        for (int t = 0; t < 40; t++) {
            int f = 1 + t % 6;
            x.time(f * NINE_ONES, f * NINE_ONES, 1);
        }
        dueSums("all share each column that comes", x, 320, 8);
    }

    @Edge(promise = 26, says = "the a, b, r with the most such ROWS")
    private static void sumsByTheMost() {
        // 1 2 is in three rows, 0 1 and 0 2 in two: after 1 2 the new one and 0 are shared; 0 1 first would make it 3.
        dueSums("1 2 first", rowsOf(2, 7, 6, 7), 5, 2);
    }

    @Edge(promise = 26, says = "of several the least a, then the least b, then the least r")
    private static void sumsByTheLeast() {
        // 0 1, 0 3 and 1 2 are in two rows each; after 0 1 nothing is shared, after 1 2 would 0 3 be: 4.
        dueSums("the least a", rowsOf(2, 15, 3, 6, 9), 6, 5);
        // 0 1, 0 3 and 2 3 are in two rows each; after 0 1 2 3 is shared, after 0 3 nothing would be: 5.
        dueSums("the least b", rowsOf(2, 9, 3, 12, 15), 6, 4);
        dueSums("the least b, seen last", rowsOf(2, 9, 15, 3, 12), 6, 4);
        // 2 1 1, 0 2 1, 0 2 2, 1 2 1: 0 1 by 2, 1 2 by 1 and 1 2 by 2 are in two rows each; after 0 1 nothing is
        // shared, after 1 2 by 1 would 1 2 by 2 be: 4.
        dueSums("a ahead of r", rowsOf(3, 14, 15, 24, 16), 6, 5);
    }

    /** Rows two by two the same; those of unlike twins have no a, b, r in common, so that each r is in two rows. */
    private static TimesBench twins(int lines, int... more) {
        TimesBench x = Edges.onBox(7, 9, 9, 1);
        for (int n = 0; n < lines; n++) {
            int[] line = LINES[n / 2];
            // 1 1 1 and 1 2 4: by 1, 1, 1 and by 2, 4, 2.
            int b = n % 2 == 0 ? 1 : 2;
            int c = n % 2 == 0 ? 1 : 4;
            addTwins(x, (int) (Math.pow(7, line[0]) + b * Math.pow(7, line[1]) + c * Math.pow(7, line[2])));
        }
        for (int row : more) {
            addTwins(x, row);
        }
        return x;
    }

    private static void addTwins(TimesBench x, int row) {
        x.time(row, row, 1);
        x.time(row, row, 1);
    }

    @Edge(promise = 26, says = "(At most 40 columns come.)")
    private static void sumsWithFortyColumns() {
        // Two columns come for each of 20 twins, and each row has one number then.
        dueSums("forty come", twins(20), 80, 40);
        dueSums("38 come", twins(19), 76, 38);
    }

    @Edge(promise = 26, says = "(At most 40 columns come.)")
    private static void sumsBeyondFortyColumns() {
        // 1 3 2 5 at 0, 1, 2, 3 has by 3, 2, 5, 3, 4, 6, none of which a line has there: 38 columns and 3 would come.
        // 40 do: of what is plain, 76 and 6, they take 2 each, and 2 is left.
        dueSums("41 would come", twins(19, 1 + 3 * 7 + 2 * 49 + 5 * 343), 82, 42);
    }

    @Edge(promise = 26, says = "SUMS of the ROWS u (or v) of THE SCHEME")
    private static void sumsLeaveTheScheme() {
        TimesBench x = twins(20);
        int before = x.row(39, 0);
        x.sums(0, 1);
        x.sums(1, 1);
        due("how many", x.many(4), 40);
        Edges.dueTime(x, 39, before, before, 1);
        String all = Edges.lookThrough(Edges.busy());
        String after = Edges.lookThrough(Edges.busyThen(y -> y.sums(0, 1) + y.sums(1, 1)));
        Edges.due("nothing is changed", after.equals(all), true);
    }
}
