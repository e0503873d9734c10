/** The boundary cases of promises 21 to 23: ranks, and least schemes. */
public final class BoundsEdgesTest {
    private static final int NUMBER = Edges.NUMBER;
    private static final int LARGE = Edges.LARGE;
    private static final int ABOVE = Edges.ABOVE;

    public static void main(String[] args) throws Exception {
        Edges.run(BoundsEdgesTest.class, 21, 23);
    }

    private static void due(String what, int got, int want) {
        Edges.due(what, got, want);
    }

    private static void dueRanks(TimesBench x, int i, int j, int k, int bound) {
        due("rank by i", x.rank(0), i);
        due("rank by j", x.rank(1), j);
        due("rank by k", x.rank(2), k);
        due("bound", x.rank(3), bound);
    }

    /** A box of 1 by n by n with v where j is k: n tables none of which comes of the others. */
    private static TimesBench diagonal(int p, int n, int v) {
        TimesBench x = Edges.onBox(p, 1, n, n);
        for (int j = 0; j < n; j++) {
            x.set(0, j, j, v);
        }
        return x;
    }

    /** Something of everything, with a box that has 31 pairs and needs 5 times. */
    private static TimesBench busyAndAbove() {
        TimesBench x = diagonal(2, 5, 1);
        x.keep(2);
        x.time(1, 31, 17);
        x.time(1, 31, 1);
        x.time(0, 1, 30);
        x.hand(0, 0, 1);
        x.hand(1, 0, 1);
        x.hand(1, 4, 1);
        return x;
    }

    // ---- promise 21

    @Edge(promise = 21, says = "NUMBER: another one.")
    private static void rankOfAnother() {
        for (int bad : Edges.outside(0, 3)) {
            Edges.refused("which " + bad, Edges::busy, x -> x.rank(bad), NUMBER);
        }
    }

    @Edge(promise = 21, says = "RANK by which of THE BOX")
    private static void rankOfNoughts() {
        dueRanks(new TimesBench(), 0, 0, 0, 0);
        dueRanks(Edges.onBox(7, 9, 9, 9), 0, 0, 0, 0);
    }

    @Edge(promise = 21, says = "RANK by which of THE BOX")
    private static void rankOfFullBox() {
        dueRanks(Edges.fullBox(2), 1, 1, 1, 1);
        TimesBench x = Edges.fullBox(7);
        dueRanks(x, 1, 1, 1, 1);
        x.set(8, 8, 8, 0);
        dueRanks(x, 2, 2, 2, 2);
    }

    @Edge(promise = 21, says = "a line for each index that way (0: i, 1: j, 2: k), and a column for both others")
    private static void rankOfNine() {
        TimesBench x = Edges.on(2);
        x.tables(3, 3, 3);
        dueRanks(x, 9, 9, 9, 9);
        TimesBench last = Edges.onBox(7, 9, 9, 9);
        last.set(8, 8, 8, 6);
        dueRanks(last, 1, 1, 1, 1);
        TimesBench narrow = Edges.onBox(3, 9, 1, 2);
        for (int i = 0; i < 9; i++) {
            narrow.set(i, 0, i % 2, 1 + i % 2);
        }
        // Nine lines, but two columns.
        dueRanks(narrow, 2, 1, 2, 2);
    }

    @Edge(promise = 21, says = "BOUND is the greatest of the three.")
    private static void boundByEachWay() {
        TimesBench x = Edges.on(3);
        x.rows(2, 3, 0);
        dueRanks(x, 2, 3, 4, 4);
        x.around();
        dueRanks(x, 3, 4, 2, 4);
        x.around();
        dueRanks(x, 4, 2, 3, 4);
    }

    @Edge(promise = 21, says = "over the GROUND")
    private static void rankModuloP() {
        // 1 2, 2 1: the second line less twice the first one is 0 -3, noughts over 3 alone.
        int[] grounds = {3, 5, 7};
        int[] ranks = {1, 2, 2};
        for (int n = 0; n < 3; n++) {
            TimesBench x = Edges.onBox(grounds[n], 2, 2, 1);
            x.set(0, 0, 0, 1);
            x.set(0, 1, 0, 2);
            x.set(1, 0, 0, 2);
            x.set(1, 1, 0, 1);
            dueRanks(x, ranks[n], ranks[n], 1, ranks[n]);
        }
    }

    // ---- promise 22

    @Edge(promise = 22, says = "THE BOX is LARGE if there are more than 60 PAIRS.")
    private static void largeByAllSizes() {
        for (int p : new int[] {2, 3, 5, 7}) {
            for (int a = 1; a <= 9; a++) {
                for (int b = 1; b <= 9; b++) {
                    long pairs = rowsThatBeginWithOne(p, a) * rowsThatBeginWithOne(p, b);
                    TimesBench x = Edges.onBox(p, a, b, 9);
                    due(pairs + " pairs: least", x.least(), pairs > 60 ? LARGE : 0);
                    due(pairs + " pairs: find", x.find(), pairs > 60 ? LARGE : 0);
                }
            }
        }
    }

    /** By where the 1 stands: what is behind it is free. */
    private static long rowsThatBeginWithOne(int p, int size) {
        long rows = 0;
        long free = 1;
        for (int behind = 0; behind < size; behind++) {
            rows += free;
            free *= p;
        }
        return rows;
    }

    @Edge(promise = 22, says = "THE BOX is LARGE if there are more than 60 PAIRS.")
    private static void largeByTheNearest() {
        due("57", Edges.onBox(7, 1, 3, 1).least(), 0);
        due("57", Edges.onBox(7, 3, 1, 9).least(), 0);
        due("52", Edges.onBox(3, 2, 3, 1).least(), 0);
        due("63", Edges.onBox(2, 6, 1, 1).least(), LARGE);
        due("63", Edges.onBox(2, 1, 6, 1).least(), LARGE);
        due("64", Edges.onBox(7, 2, 2, 1).least(), LARGE);
        due("the most", Edges.onBox(7, 9, 9, 9).least(), LARGE);
    }

    @Edge(promise = 22, says = "LARGE")
    private static void leastOfLargeChangesNothing() {
        Edges.refused("6 by 31 pairs", Edges::busy, x -> x.least(), LARGE);
    }

    @Edge(promise = 22, says = "ABOVE: it is more.")
    private static void leastAbove() {
        Edges.refused("5", BoundsEdgesTest::busyAndAbove, x -> x.least(), ABOVE);
        TimesBench x = Edges.on(2);
        x.tables(1, 3, 3);
        due("9, but large", x.least(), LARGE);
        x.tables(3, 1, 3);
        due("9", x.least(), ABOVE);
        // 4 times would each put another number in for the unknown, one of them beyond all: over 2 there are 3.
        x.rows(3, 2, 0);
        due("the bound", x.rank(3), 4);
        due("more than the bound", x.least(), ABOVE);
    }

    @Edge(promise = 22, says = "THE LEAST of THE BOX, if it is at most 4.")
    private static void leastOfNoughtToFour() {
        due("0 of the least box", new TimesBench().least(), 0);
        for (int n = 1; n <= 4; n++) {
            due(n + " over 2", diagonal(2, n, 1).least(), n);
            due(n + " over 3", diagonal(3, n, 2).least(), n);
        }
        due("5 over 2", diagonal(2, 5, 1).least(), ABOVE);
        TimesBench x = Edges.on(2);
        x.tables(2, 1, 2);
        due("4", x.least(), 4);
        x.rows(1, 4, 0);
        due("4", x.least(), 4);
        x.rows(1, 5, 0);
        due("5", x.least(), ABOVE);
    }

    @Edge(promise = 22, says = "Of several refusals that a call names the first one named is answered.")
    private static void leastLargeAheadOfAbove() {
        due("9, of 511 pairs", diagonal(2, 9, 1).least(), LARGE);
        TimesBench x = Edges.on(7);
        x.tables(2, 2, 2);
        due("7, of very many pairs", x.least(), LARGE);
    }

    @Edge(promise = 22, says = "THE LEAST of THE BOX")
    private static void leastLeavesTheScheme() {
        TimesBench x = diagonal(2, 4, 1);
        Edges.addTimes(x, 40);
        due("least", x.least(), 4);
        due("the scheme", x.many(4), 40);
        Edges.dueTime(x, 0, 1, 1, 1);
    }

    @Edge(promise = 22, says = "sum up, each times a number, to t(.., .., k) for each k")
    private static void leastOfManyTables() {
        // Nine tables, all the same but for a factor, and the largest box that may be.
        TimesBench x = Edges.onBox(5, 2, 2, 9);
        for (int k = 0; k < 9; k++) {
            x.set(1, 1, k, k % 5);
        }
        due("one", x.least(), 1);
        x.set(0, 0, 8, 1);
        due("two", x.least(), 2);
        TimesBench y = Edges.onBox(2, 3, 3, 9);
        for (int k = 0; k < 9; k++) {
            y.set(k / 3, k % 3, k, 1);
        }
        due("nine", y.least(), ABOVE);
    }

    // ---- promise 23

    @Edge(promise = 23, says = "LARGE")
    private static void findOfLarge() {
        Edges.refused("6 by 31 pairs", Edges::busy, x -> x.find(), LARGE);
        due("9, of 511 pairs", diagonal(2, 9, 1).find(), LARGE);
    }

    @Edge(promise = 23, says = "ABOVE")
    private static void findAbove() {
        Edges.refused("5", BoundsEdgesTest::busyAndAbove, x -> x.find(), ABOVE);
    }

    @Edge(promise = 23, says = "THE SCHEME becomes one of as many TIMES as THE LEAST")
    private static void findOfNoughts() {
        TimesBench x = Edges.onBox(2, 3, 3, 9);
        Edges.addTimes(x, 40);
        due("noughts", x.find(), 0);
        due("no times", x.many(4), 0);
        due("no moves", x.many(6), 0);
    }

    @Edge(promise = 23, says = "THE SCHEME becomes one of as many TIMES as THE LEAST")
    private static void findOfFour() {
        TimesBench x = diagonal(3, 4, 2);
        Edges.addTimes(x, 40);
        due("four", x.find(), 4);
        due("how many", x.many(4), 4);
        // Pairs of 1 with 1, 3, 9 and 27 are the first of which all comes.
        for (int t = 0; t < 4; t++) {
            int told = (int) Math.pow(3, t);
            Edges.dueTime(x, t, 1, told, 2 * told);
        }
    }

    @Edge(promise = 23, says = "ROWS u and v whose first number that isn't 0 is 1")
    private static void findOfOne() {
        TimesBench x = Edges.on(7);
        x.set(0, 0, 0, 6);
        due("one place", x.find(), 1);
        Edges.dueTime(x, 0, 1, 1, 6);
        // 3 4 4 is 3 times 1 6 6, the last of 57 pairs.
        x.box(1, 3, 9);
        x.set(0, 0, 8, 3);
        x.set(0, 1, 8, 4);
        x.set(0, 2, 8, 4);
        due("the last pair", x.find(), 1);
        Edges.dueTime(x, 0, 1, 1 + 6 * 7 + 6 * 49, 3 * 5764801);
        // 0 5 3 is 5 times 0 1 2.
        x.box(1, 3, 1);
        x.set(0, 1, 0, 5);
        x.set(0, 2, 0, 3);
        due("the first number is 0", x.find(), 1);
        Edges.dueTime(x, 0, 1, 7 + 2 * 49, 5);
        TimesBench y = Edges.onBox(2, 3, 3, 1);
        for (int n = 0; n < 9; n++) {
            y.set(n / 3, n % 3, 0, 1);
        }
        due("the last of 49 pairs", y.find(), 1);
        Edges.dueTime(y, 0, 7, 7, 1);
    }

    @Edge(promise = 23, says = "those that come first (compared PAIR by PAIR, in rising order)")
    private static void findTheFirstPairs() {
        // 1 0, 0 1: taking 1 1 off leaves 2 2.
        TimesBench x = Edges.onBox(2, 2, 2, 1);
        x.set(0, 0, 0, 1);
        x.set(1, 1, 0, 1);
        due("straight", x.find(), 2);
        Edges.dueTime(x, 0, 1, 1, 1);
        Edges.dueTime(x, 1, 2, 2, 1);
        // 0 1, 1 0: taking 1 1 off leaves two still, taking 1 2 off leaves 2 1.
        x.box(2, 2, 1);
        x.set(0, 1, 0, 1);
        x.set(1, 0, 0, 1);
        due("crosswise", x.find(), 2);
        Edges.dueTime(x, 0, 1, 2, 1);
        Edges.dueTime(x, 1, 2, 1, 1);
    }

    @Edge(promise = 23, says = "the ROW of numbers by which these sum up to t(.., .., k)")
    private static void findOfSeveralInOneTable() {
        // 1 0, 0 1 is the sum of 1 1, 0 0 and 0 1, 0 1 over 2; 1 1, 0 0 is there too.
        TimesBench x = Edges.onBox(2, 2, 2, 2);
        x.set(0, 0, 0, 1);
        x.set(1, 1, 0, 1);
        x.set(0, 0, 1, 1);
        x.set(0, 1, 1, 1);
        due("two", x.find(), 2);
        Edges.dueTime(x, 0, 1, 3, 3);
        Edges.dueTime(x, 1, 3, 2, 1);
        // 0 1, 1 0 is all ones less 1 0, 0 0 and 0 0, 0 1 over 3.
        TimesBench y = Edges.on(3);
        y.rows(2, 2, 0);
        due("three", y.find(), 3);
        Edges.dueTime(y, 0, 1, 1, 1 + 2 * 3);
        Edges.dueTime(y, 1, 3, 3, 2 * 3 + 9);
        Edges.dueTime(y, 2, 4, 4, 3);
    }

    @Edge(promise = 23, says = "w(k) is, for each k, the ROW of numbers by which these sum up to t(.., .., k)")
    private static void findNoughtsInW() {
        // Of nine tables the first and the last aren't noughts: 2 at 0 0, and 1 at 0 0 with 2 at 1 1.
        TimesBench x = Edges.onBox(3, 2, 2, 9);
        x.set(0, 0, 0, 2);
        x.set(0, 0, 8, 1);
        x.set(1, 1, 8, 2);
        due("two", x.find(), 2);
        Edges.dueTime(x, 0, 1, 1, 2 + 6561);
        Edges.dueTime(x, 1, 3, 3, 2 * 6561);
        Edges.due("makes", x.makes(), true);
    }
}
