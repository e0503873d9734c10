/** The boundary cases of promises 1 to 8: a new object, and the box. */
public final class BoxEdgesTest {
    private static final int NUMBER = Edges.NUMBER;
    private static final int LARGE = Edges.LARGE;
    private static final int STATE = Edges.STATE;
    private static final int LEAST_INT = Integer.MIN_VALUE;
    private static final int MOST_INT = Integer.MAX_VALUE;

    public static void main(String[] args) throws Exception {
        Edges.run(BoxEdgesTest.class, 1, 8);
    }

    private static void due(String what, int got, int want) {
        Edges.due(what, got, want);
    }

    // ---- promise 1

    @Edge(promise = 1, says = "P is 2")
    private static void newGroundIsTwo() {
        TimesBench x = new TimesBench();
        due("P", x.many(0), 2);
        due("2 is no number", x.set(0, 0, 0, 2), NUMBER);
        due("1 is one", x.set(0, 0, 0, 1), 0);
    }

    @Edge(promise = 1, says = "THE BOX has SIZES 1, 1, 1 and 0 in it")
    private static void newBoxIsLeast() {
        TimesBench x = new TimesBench();
        Edges.dueSizes(x, 1, 1, 1);
        due("its place", x.at(0, 0, 0), 0);
        due("no other i", x.at(1, 0, 0), -1);
        due("no other j", x.at(0, 1, 0), -1);
        due("no other k", x.at(0, 0, 1), -1);
        due("places with no 0", x.many(5), 0);
    }

    @Edge(promise = 1, says = "no TIMES")
    private static void newSchemeIsEmpty() {
        TimesBench x = new TimesBench();
        due("how many", x.many(4), 0);
        due("row", x.row(0, 0), -1);
        due("drop", x.drop(0), NUMBER);
        due("change", x.change(0, 0, 0), NUMBER);
        due("the first one's number", x.time(1, 1, 1), 0);
    }

    @Edge(promise = 1, says = "nothing KEPT")
    private static void newPlacesAreEmpty() {
        TimesBench x = new TimesBench();
        for (int p = 0; p < 4; p++) {
            due("back", x.back(p), STATE);
            due("beside", x.beside(p), STATE);
            due("within", x.within(p), STATE);
        }
    }

    @Edge(promise = 1, says = "IN HAND are a ROW x and a ROW y, noughts at first.")
    private static void newHandsAreNoughts() {
        Edges.dueNoughtsInHand(TimesBench::new);
    }

    @Edge(promise = 1, says = "An object is used for at most 512 calls after it has been made")
    private static void lastCallOfAll() {
        TimesBench x = new TimesBench();
        x.ground(7);
        x.tables(3, 3, 3);
        due("plain", x.plain(), 27);
        for (int call = 4; call < 512; call++) {
            if (call % 2 == 0) {
                x.around();
            } else {
                x.keep(call % 4);
            }
        }
        due("the 512th call", x.off(0), -1);
    }

    @Edge(promise = 1, says = "NUMBER = -1, FULL = -2, LARGE = -3, STATE = -4, ABOVE = -5")
    private static void constants() {
        due("NUMBER", TimesBench.NUMBER, -1);
        due("FULL", TimesBench.FULL, -2);
        due("LARGE", TimesBench.LARGE, -3);
        due("STATE", TimesBench.STATE, -4);
        due("ABOVE", TimesBench.ABOVE, -5);
    }

    // ---- promise 2

    @Edge(promise = 2, says = "THE GROUND is P: 2, 3, 5 or 7.")
    private static void eachGround() {
        for (int p : new int[] {2, 3, 5, 7}) {
            TimesBench x = Edges.on(p);
            due("P", x.many(0), p);
            due("P is no number", x.set(0, 0, 0, p), NUMBER);
            due("P - 1 is one", x.set(0, 0, 0, p - 1), 0);
        }
    }

    @Edge(promise = 2, says = "NUMBER: p isn't 2, 3, 5 or 7.")
    private static void groundRefused() {
        int[] wrong = {LEAST_INT, -7, -5, -3, -2, -1, 0, 1, 4, 6, 8, 9, 10, 11, 13, 258, 65538, MOST_INT};
        for (int p : wrong) {
            Edges.refused("ground(" + p + ")", Edges::busy, x -> x.ground(p), NUMBER);
        }
    }

    @Edge(promise = 2, says = "THE GROUND is another one (or the same)")
    private static void sameGroundEmptiesAll() {
        TimesBench x = Edges.busy();
        due("the same ground", x.ground(5), 1);
        due("P", x.many(0), 5);
        Edges.dueSizes(x, 1, 1, 1);
        due("the box", x.at(0, 0, 0), 0);
        due("times", x.many(4), 0);
        due("moves", x.many(6), 0);
    }

    @Edge(promise = 2, says = "nothing KEPT")
    private static void groundForgetsKept() {
        for (int next : new int[] {5, 7}) {
            TimesBench x = Edges.busy();
            for (int p = 0; p < 4; p++) {
                x.keep(p);
            }
            due("ground", x.ground(next), 1);
            for (int p = 0; p < 4; p++) {
                due("back", x.back(p), STATE);
                due("beside", x.beside(p), STATE);
                due("within", x.within(p), STATE);
            }
        }
    }

    @Edge(promise = 2, says = "noughts IN HAND")
    private static void groundEmptiesHands() {
        for (int next : new int[] {2, 5, 7}) {
            Edges.dueNoughtsInHand(() -> Edges.busyThen(x -> x.ground(next)));
        }
    }

    // ---- promise 3

    @Edge(promise = 3, says = "SIZES A, B, C (1 to 9 each)")
    private static void leastAndMostSizes() {
        TimesBench x = Edges.on(7);
        int[][] sizes = {{1, 1, 1}, {9, 1, 1}, {1, 9, 1}, {1, 1, 9}, {9, 9, 9}};
        for (int[] size : sizes) {
            due("box", x.box(size[0], size[1], size[2]), 1);
            Edges.dueSizes(x, size[0], size[1], size[2]);
            due("its last place", x.set(size[0] - 1, size[1] - 1, size[2] - 1, 6), 0);
            due("which is there", x.at(size[0] - 1, size[1] - 1, size[2] - 1), 6);
            due("none behind in i", x.at(size[0], 0, 0), -1);
            due("none behind in j", x.at(0, size[1], 0), -1);
            due("none behind in k", x.at(0, 0, size[2]), -1);
        }
    }

    @Edge(promise = 3, says = "NUMBER: one isn't 1 to 9.")
    private static void boxRefused() {
        for (int bad : Edges.outside(1, 9)) {
            Edges.refused("a " + bad, Edges::busy, x -> x.box(bad, 9, 9), NUMBER);
            Edges.refused("b " + bad, Edges::busy, x -> x.box(1, bad, 1), NUMBER);
            Edges.refused("c " + bad, Edges::busy, x -> x.box(2, 3, bad), NUMBER);
            Edges.refused("all " + bad, Edges::busy, x -> x.box(bad, bad, bad), NUMBER);
        }
    }

    @Edge(promise = 3, says = "all in it is 0; no TIMES; noughts IN HAND")
    private static void sameBoxEmptiesAll() {
        TimesBench x = Edges.busy();
        due("the same sizes", x.box(2, 3, 2), 1);
        due("places with no 0", x.many(5), 0);
        due("times", x.many(4), 0);
        due("moves", x.many(6), 0);
        Edges.dueNoughtsInHand(() -> Edges.busyThen(y -> y.box(2, 3, 2)));
    }

    @Edge(promise = 3, says = "all in it is 0")
    private static void boxAfterFullOne() {
        TimesBench x = Edges.fullBox(3);
        x.box(1, 1, 1);
        due("less", x.many(5), 0);
        x.box(9, 9, 9);
        due("as large again", x.many(5), 0);
    }

    @Edge(promise = 3, says = "KEPT places 0 to 3 have a BOX with its SCHEME each, or nothing.")
    private static void boxLeavesKept() {
        TimesBench x = Edges.busy();
        x.box(9, 9, 9);
        due("nothing", x.back(0), STATE);
        due("a box", x.back(1), 1);
        due("its number", x.at(0, 1, 0), 4);
    }

    // ---- promise 4

    @Edge(promise = 4, says = "NUMBER: one isn't 1 to 9")
    private static void tablesRefused() {
        for (int bad : Edges.outside(1, 9)) {
            Edges.refused("a " + bad, Edges::busy, x -> x.tables(bad, 1, 1), NUMBER);
            Edges.refused("b " + bad, Edges::busy, x -> x.tables(1, bad, 1), NUMBER);
            Edges.refused("c " + bad, Edges::busy, x -> x.tables(1, 1, bad), NUMBER);
        }
        // Their product, as an int, would be 0 and 1.
        Edges.refused("65536", Edges::busy, x -> x.tables(65536, 65536, 65536), NUMBER);
        Edges.refused("-1", Edges::busy, x -> x.tables(-1, -1, -1), NUMBER);
    }

    @Edge(promise = 4, says = "LARGE: a SIZE would be above 9.")
    private static void tablesLarge() {
        Edges.refused("a b is 10", Edges::busy, x -> x.tables(2, 5, 1), LARGE);
        Edges.refused("b c is 10", Edges::busy, x -> x.tables(1, 2, 5), LARGE);
        Edges.refused("a c is 10", Edges::busy, x -> x.tables(5, 1, 2), LARGE);
        Edges.refused("all are 81", Edges::busy, x -> x.tables(9, 9, 9), LARGE);
    }

    @Edge(promise = 4, says = "SIZES a b, b c, a c")
    private static void tablesOfNine() {
        TimesBench x = Edges.on(7);
        int[][] most = {{9, 1, 1, 9, 1, 9}, {1, 9, 1, 9, 9, 1}, {1, 1, 9, 1, 9, 9}, {3, 3, 3, 9, 9, 9}};
        for (int[] one : most) {
            due("tables", x.tables(one[0], one[1], one[2]), 1);
            Edges.dueSizes(x, one[3], one[4], one[5]);
            due("places with no 0", x.many(5), one[0] * one[1] * one[2]);
            due("the first place", x.at(0, 0, 0), 1);
            due("the last place", x.at(one[3] - 1, one[4] - 1, one[5] - 1), 1);
        }
        due("the least", x.tables(1, 1, 1), 1);
        Edges.dueSizes(x, 1, 1, 1);
        due("its place", x.at(0, 0, 0), 1);
    }

    @Edge(promise = 4, says = "Of several refusals that a call names the first one named is answered.")
    private static void tablesNumberAheadOfLarge() {
        Edges.refused("a b is above, c none", Edges::busy, x -> x.tables(9, 9, 0), NUMBER);
        Edges.refused("b c is above, a none", Edges::busy, x -> x.tables(10, 9, 9), NUMBER);
        Edges.refused("a c is above, b none", Edges::busy, x -> x.tables(9, 10, 9), NUMBER);
    }

    @Edge(promise = 4, says = "no TIMES; noughts IN HAND")
    private static void tablesEmptyTheRest() {
        TimesBench x = Edges.busy();
        due("tables", x.tables(1, 2, 2), 1);
        due("times", x.many(4), 0);
        Edges.dueNoughtsInHand(() -> Edges.busyThen(y -> y.tables(1, 2, 2)));
        due("kept ones stay", x.back(1), 1);
    }

    // ---- promise 5

    @Edge(promise = 5, says = "NUMBER: n or m isn't 1 to 9, or w not 0 to 9")
    private static void rowsRefused() {
        for (int bad : Edges.outside(1, 9)) {
            Edges.refused("n " + bad, Edges::busy, x -> x.rows(bad, 1, 1), NUMBER);
            Edges.refused("n " + bad + ", w 0", Edges::busy, x -> x.rows(bad, 1, 0), NUMBER);
            Edges.refused("m " + bad, Edges::busy, x -> x.rows(1, bad, 1), NUMBER);
            Edges.refused("m " + bad + ", w 0", Edges::busy, x -> x.rows(1, bad, 0), NUMBER);
        }
        for (int bad : Edges.outside(0, 9)) {
            Edges.refused("w " + bad, Edges::busy, x -> x.rows(1, 1, bad), NUMBER);
        }
    }

    @Edge(promise = 5, says = "LARGE: a SIZE would be above 9.")
    private static void rowsLarge() {
        Edges.refused("10", Edges::busy, x -> x.rows(5, 6, 0), LARGE);
        Edges.refused("10", Edges::busy, x -> x.rows(9, 2, 0), LARGE);
        Edges.refused("10", Edges::busy, x -> x.rows(2, 9, 0), LARGE);
        Edges.refused("17", Edges::busy, x -> x.rows(9, 9, 0), LARGE);
    }

    @Edge(promise = 5, says = "SIZES n, m, and n + m - 1 if w is 0")
    private static void rowsOfNine() {
        TimesBench x = Edges.on(3);
        int[][] most = {{1, 9}, {9, 1}, {5, 5}, {2, 8}};
        for (int[] one : most) {
            due("rows", x.rows(one[0], one[1], 0), 1);
            Edges.dueSizes(x, one[0], one[1], 9);
            due("the last place", x.at(one[0] - 1, one[1] - 1, 8), 1);
            due("places with no 0", x.many(5), one[0] * one[1]);
        }
        due("the least", x.rows(1, 1, 0), 1);
        Edges.dueSizes(x, 1, 1, 1);
        due("its place", x.at(0, 0, 0), 1);
    }

    @Edge(promise = 5, says = "n + m - 1 if w is 0, else w")
    private static void rowsWithWAreNeverLarge() {
        TimesBench x = Edges.on(2);
        due("w 1", x.rows(9, 9, 1), 1);
        Edges.dueSizes(x, 9, 9, 1);
        due("all come to 0", x.many(5), 81);
        due("the last one too", x.at(8, 8, 0), 1);
        due("w 9", x.rows(9, 9, 9), 1);
        Edges.dueSizes(x, 9, 9, 9);
        due("one for each i and j", x.many(5), 81);
    }

    @Edge(promise = 5, says = "t is 1 where k is i + j, if w isn't 0 modulo w, else 0")
    private static void rowsWrapAround() {
        TimesBench x = Edges.on(5);
        x.rows(3, 3, 5);
        due("w is all sums: 4 stays", x.at(2, 2, 4), 1);
        due("nothing wraps", x.at(2, 2, 0), 0);
        x.rows(3, 3, 4);
        due("4 becomes 0", x.at(2, 2, 0), 1);
        due("3 stays", x.at(2, 1, 3), 1);
        x.rows(3, 3, 2);
        due("4 becomes 0, twice around", x.at(2, 2, 0), 1);
        due("3 becomes 1", x.at(1, 2, 1), 1);
        due("2 becomes 0", x.at(1, 1, 0), 1);
        due("and is not at 1", x.at(1, 1, 1), 0);
        x.rows(9, 9, 9);
        due("16 becomes 7", x.at(8, 8, 7), 1);
        due("9 becomes 0", x.at(1, 8, 0), 1);
        due("8 stays", x.at(0, 8, 8), 1);
    }

    @Edge(promise = 5, says = "else w")
    private static void rowsWithWBeyondAllSums() {
        TimesBench x = Edges.on(5);
        due("rows", x.rows(2, 2, 9), 1);
        Edges.dueSizes(x, 2, 2, 9);
        due("the last sum", x.at(1, 1, 2), 1);
        due("places with no 0", x.many(5), 4);
        due("one of one", x.rows(1, 1, 9), 1);
        Edges.dueSizes(x, 1, 1, 9);
        due("places with no 0", x.many(5), 1);
    }

    @Edge(promise = 5, says = "Of several refusals that a call names the first one named is answered.")
    private static void rowsNumberAheadOfLarge() {
        Edges.refused("n", Edges::busy, x -> x.rows(10, 9, 0), NUMBER);
        Edges.refused("m", Edges::busy, x -> x.rows(9, 10, 0), NUMBER);
        Edges.refused("w", Edges::busy, x -> x.rows(9, 9, -1), NUMBER);
        Edges.refused("w above 9 is no size, but no number either", Edges::busy, x -> x.rows(9, 9, 10), NUMBER);
    }

    @Edge(promise = 5, says = "no TIMES; noughts IN HAND")
    private static void rowsEmptyTheRest() {
        TimesBench x = Edges.busy();
        due("rows", x.rows(2, 3, 0), 1);
        due("times", x.many(4), 0);
        Edges.dueNoughtsInHand(() -> Edges.busyThen(y -> y.rows(2, 3, 0)));
        due("kept ones stay", x.back(1), 1);
    }

    // ---- promise 6

    @Edge(promise = 6, says = "NUMBER: there is no such place")
    private static void setOutside() {
        for (int v : new int[] {0, 4}) {
            for (int bad : Edges.outside(0, 1)) {
                Edges.refused("i " + bad, Edges::busy, x -> x.set(bad, 0, 0, v), NUMBER);
                Edges.refused("k " + bad, Edges::busy, x -> x.set(0, 0, bad, v), NUMBER);
            }
            for (int bad : Edges.outside(0, 2)) {
                Edges.refused("j " + bad, Edges::busy, x -> x.set(0, bad, 0, v), NUMBER);
            }
        }
    }

    @Edge(promise = 6, says = "NUMBER: v isn't 0 to P - 1.")
    private static void setNoNumber() {
        for (int bad : Edges.outside(0, 4)) {
            Edges.refused("v " + bad, Edges::busy, x -> x.set(1, 2, 1, bad), NUMBER);
            Edges.refused("v " + bad + " outside", Edges::busy, x -> x.set(2, 3, 2, bad), NUMBER);
        }
    }

    @Edge(promise = 6, says = "A number of THE BOX is another one: what it was.")
    private static void setLeastAndMost() {
        TimesBench x = Edges.onBox(7, 9, 9, 9);
        due("the last place, P - 1", x.set(8, 8, 8, 6), 0);
        due("what it was", x.set(8, 8, 8, 6), 6);
        due("0", x.set(8, 8, 8, 0), 6);
        due("what it was", x.set(8, 8, 8, 0), 0);
        due("the first place", x.set(0, 0, 0, 6), 0);
        due("no other one", x.many(5), 1);
    }

    @Edge(promise = 6, says = "(TIMES stay.)")
    private static void setLeavesTheRest() {
        TimesBench x = Edges.busy();
        // z(0) is 1 1 2 + 2 3 2, z(1) is 2 1 1 + 3 3 4.
        due("by what is in hand", x.run(0), 4 + 3 * 5);
        due("set", x.set(0, 0, 0, 0), 1);
        due("times", x.many(4), 4);
        Edges.dueTime(x, 0, 6, 31, 7);
        Edges.dueTime(x, 3, 0, 124, 24);
        due("what is in hand stays", x.run(0), 2 + 3 * 5);
        due("kept ones stay", x.back(1), 1);
    }

    // ---- promise 7

    @Edge(promise = 7, says = "-1 if there is no such place.")
    private static void atOutside() {
        for (int bad : Edges.outside(0, 1)) {
            Edges.refused("i " + bad, Edges::busy, x -> x.at(bad, 0, 0), -1);
            Edges.refused("k " + bad, Edges::busy, x -> x.at(0, 0, bad), -1);
        }
        for (int bad : Edges.outside(0, 2)) {
            Edges.refused("j " + bad, Edges::busy, x -> x.at(0, bad, 0), -1);
        }
    }

    @Edge(promise = 7, says = "A number of THE BOX")
    private static void atCorners() {
        TimesBench x = Edges.onBox(7, 9, 9, 9);
        for (int corner = 0; corner < 8; corner++) {
            x.set(corner / 4 * 8, corner / 2 % 2 * 8, corner % 2 * 8, 1 + corner % 6);
        }
        for (int corner = 0; corner < 8; corner++) {
            int seen = x.at(corner / 4 * 8, corner / 2 % 2 * 8, corner % 2 * 8);
            due("corner " + corner, seen, 1 + corner % 6);
        }
        due("beside a corner", x.at(8, 8, 7), 0);
    }

    // ---- promise 8

    @Edge(promise = 8, says = "-1 for another what.")
    private static void manyOfAnother() {
        for (int bad : Edges.outside(0, 6)) {
            Edges.refused("what " + bad, Edges::busy, x -> x.many(bad), -1);
        }
    }

    @Edge(promise = 8, says = "5 places of THE BOX where there is no 0")
    private static void manyPlacesEmptyAndFull() {
        due("empty", Edges.onBox(2, 9, 9, 9).many(5), 0);
        due("full", Edges.fullBox(2).many(5), 729);
        due("full over 7", Edges.fullBox(7).many(5), 729);
    }

    @Edge(promise = 8, says = "4 TIMES")
    private static void manyTimesEmptyAndFull() {
        TimesBench x = Edges.on(2);
        due("empty", x.many(4), 0);
        Edges.addTimes(x, 40);
        due("full", x.many(4), 40);
    }

    @Edge(promise = 8, says = "6 MOVES that can be done")
    private static void manyMovesEmptyAndFull() {
        TimesBench x = Edges.on(7);
        due("no times", x.many(6), 0);
        x.time(1, 1, 1);
        due("one time: s and t are unlike", x.many(6), 0);
        for (int t = 1; t < 40; t++) {
            x.time(1 + t % 6, 6 - t % 6, 1 + t % 5);
        }
        due("forty that are all alike", x.many(6), 3 * 40 * 39);
    }

    @Edge(promise = 8, says = "and they aren't all 0")
    private static void manyMovesOfNoughts() {
        TimesBench x = Edges.onBox(3, 2, 2, 2);
        x.time(0, 0, 0);
        x.time(0, 0, 0);
        x.time(0, 1, 2);
        due("noughts are alike to nothing", x.many(6), 0);
        x.change(0, 0, 8);
        due("one of two is noughts", x.many(6), 0);
        x.change(2, 0, 4);
        due("both ways", x.many(6), 2);
    }
}
