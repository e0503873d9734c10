import java.util.function.Supplier;

/** The boundary cases of promises 27 to 30: boxes with their schemes kept, put side by side and within one another. */
public final class KeptEdgesTest {
    private static final int NUMBER = Edges.NUMBER;
    private static final int FULL = Edges.FULL;
    private static final int LARGE = Edges.LARGE;
    private static final int STATE = Edges.STATE;
    private static final int GREATEST = Edges.GREATEST_ROW;

    public static void main(String[] args) throws Exception {
        Edges.run(KeptEdgesTest.class, 27, 30);
    }

    private static void due(String what, int got, int want) {
        Edges.due(what, got, want);
    }

    /** Over 7: a box with so many times in place 2, and another one in work; 6 at the last place of each. */
    private static TimesBench two(int[] kept, int keptTimes, int[] sizes, int times) {
        TimesBench x = Edges.on(7);
        fill(x, kept, keptTimes);
        x.keep(2);
        fill(x, sizes, times);
        x.hand(0, 0, 1);
        x.hand(1, 0, 1);
        return x;
    }

    private static void fill(TimesBench x, int[] sizes, int times) {
        due("box", x.box(sizes[0], sizes[1], sizes[2]), 1);
        x.set(sizes[0] - 1, sizes[1] - 1, sizes[2] - 1, 6);
        Edges.addTimes(x, times);
    }

    private static int[] sizes(int a, int b, int c) {
        return new int[] {a, b, c};
    }

    /** One size all ways but one. */
    private static int[] sizesBut(int all, int way, int size) {
        int[] sizes = {all, all, all};
        sizes[way] = size;
        return sizes;
    }

    // ---- promise 27

    @Edge(promise = 27, says = "NUMBER: there is no such place.")
    private static void keepInNoPlace() {
        for (int bad : Edges.outside(0, 3)) {
            Edges.refused("place " + bad, Edges::busy, x -> x.keep(bad), NUMBER);
        }
    }

    @Edge(promise = 27, says = "KEPT places 0 to 3 have a BOX with its SCHEME each, or nothing.")
    private static void keepInEachPlace() {
        TimesBench x = Edges.on(7);
        for (int p = 0; p < 4; p++) {
            x.box(1 + p, 2 + p, 3 + p);
            x.set(p, p, p, 1 + p);
            Edges.addTimes(x, p);
            due("keep", x.keep(p), 1);
            due("not the next one", p == 3 ? STATE : x.back(p + 1), STATE);
        }
        for (int p = 3; p >= 0; p--) {
            due("back", x.back(p), 1);
            Edges.dueSizes(x, 1 + p, 2 + p, 3 + p);
            due("its number", x.at(p, p, p), 1 + p);
            due("its times", x.many(4), p);
        }
    }

    @Edge(promise = 27, says = "THE BOX and THE SCHEME are KEPT in place p: 1.")
    private static void keepOverAnother() {
        TimesBench x = Edges.busy();
        due("over another", x.keep(1), 1);
        due("the same again", x.keep(1), 1);
        x.box(1, 1, 1);
        due("over that an empty one", x.keep(3), 1);
        due("back", x.back(1), 1);
        Edges.dueSizes(x, 2, 3, 2);
        due("its times", x.many(4), 4);
        due("back", x.back(3), 1);
        Edges.dueSizes(x, 1, 1, 1);
        due("no number", x.at(0, 0, 0), 0);
        due("no times", x.many(4), 0);
    }

    @Edge(promise = 27, says = "THE BOX and THE SCHEME are KEPT in place p: 1.")
    private static void keepOfEmptyAndFull() {
        TimesBench x = Edges.fullBox(2);
        for (int t = 0; t < 40; t++) {
            x.time(511 - t, t, 511);
        }
        due("full", x.keep(0), 1);
        x.box(1, 1, 1);
        due("empty", x.keep(1), 1);
        due("back", x.back(0), 1);
        Edges.dueSizes(x, 9, 9, 9);
        due("all places", x.many(5), 729);
        due("all times", x.many(4), 40);
        Edges.dueTime(x, 39, 472, 39, 511);
        due("back", x.back(1), 1);
        Edges.dueSizes(x, 1, 1, 1);
        due("no places", x.many(5), 0);
        due("no times", x.many(4), 0);
    }

    @Edge(promise = 27, says = "THE BOX and THE SCHEME are KEPT")
    private static void keepLeavesWhatIsInWork() {
        TimesBench x = Edges.busy();
        x.keep(0);
        Edges.dueSizes(x, 2, 3, 2);
        due("places", x.many(5), 4);
        due("times", x.many(4), 4);
        // u of 0 and 1, v of 0 and 3, w of 1 and 2 are alike.
        due("moves", x.many(6), 6);
        due("what is in hand, by the box", x.run(0), 4 + 3 * 5);
        due("what is in hand, by the scheme", x.run(1), 1 + 2 * 5);
    }

    @Edge(promise = 27, says = "THE BOX and THE SCHEME are KEPT")
    private static void keptOnesDontChange() {
        TimesBench x = Edges.busy();
        x.keep(0);
        x.set(0, 0, 0, 4);
        x.turn(0, 0, 1, 3);
        x.change(0, 0, 24);
        x.move(0, 0, 1);
        x.less();
        x.drop(0);
        x.around();
        x.plain();
        x.back(0);
        String kept = Edges.lookThrough(x);
        TimesBench y = Edges.busy();
        y.keep(0);
        y.back(0);
        Edges.due("as when it was kept", kept.equals(Edges.lookThrough(y)), true);
    }

    // ---- promise 28

    @Edge(promise = 28, says = "NUMBER: there is no such place")
    private static void backOfNoPlace() {
        for (int bad : Edges.outside(0, 3)) {
            Edges.refused("place " + bad, Edges::busy, x -> x.back(bad), NUMBER);
            Edges.refused("place " + bad, TimesBench::new, x -> x.back(bad), NUMBER);
        }
    }

    @Edge(promise = 28, says = "STATE: nothing is KEPT there.")
    private static void backOfNothing() {
        Edges.refused("place 0", Edges::busy, x -> x.back(0), STATE);
        Edges.refused("place 2", Edges::busy, x -> x.back(2), STATE);
        for (int p = 0; p < 4; p++) {
            int place = p;
            Edges.refused("place " + p, TimesBench::new, x -> x.back(place), STATE);
        }
    }

    @Edge(promise = 28, says = "(they stay KEPT)")
    private static void backTwice() {
        TimesBench x = Edges.busy();
        for (int n = 0; n < 3; n++) {
            due("back", x.back(1), 1);
            Edges.dueSizes(x, 1, 2, 1);
            due("its number", x.set(0, 1, 0, 1), 4);
            due("its times", x.many(4), 1);
            Edges.dueTime(x, 0, 3, 7, 2);
            x.change(0, 0, 0);
            due("less", x.less(), 1);
        }
    }

    @Edge(promise = 28, says = "noughts IN HAND")
    private static void backEmptiesHands() {
        Edges.dueNoughtsInHand(() -> Edges.busyThen(x -> x.back(1)));
        Edges.dueNoughtsInHand(() -> Edges.busyThen(x -> x.keep(0) * x.back(0)));
    }

    @Edge(promise = 28, says = "THE BOX and THE SCHEME become those that are KEPT in place p")
    private static void backToEmptyScheme() {
        TimesBench x = Edges.busy();
        due("back", x.back(3), 1);
        Edges.dueSizes(x, 2, 1, 1);
        due("its number", x.at(1, 0, 0), 2);
        due("no times", x.many(4), 0);
        due("no moves", x.many(6), 0);
        due("none to drop", x.drop(0), NUMBER);
    }

    @Edge(promise = 28, says = "THE SCHEME become those that are KEPT in place p")
    private static void backToWhatCanBeMoved() {
        Supplier<TimesBench> made = () -> {
            TimesBench x = Edges.onBox(5, 2, 1, 2);
            x.time(6, 1, 5);
            x.time(12, 1, 1);
            x.keep(2);
            x.box(2, 1, 2);
            x.time(1, 2, 5);
            x.time(5, 0, 5);
            x.back(2);
            return x;
        };
        // u by 2, v by 1.
        due("moves", made.get().many(6), 4);
        TimesBench moved = made.get();
        due("v", moved.move(1, 0, 1), 1);
        Edges.dueTime(moved, 0, 6, 1, 6);
        Edges.dueTime(moved, 1, 6, 1, 1);
        due("w isn't alike", made.get().move(2, 0, 1), STATE);
        TimesBench less = made.get();
        due("u and v", less.less(), 1);
        Edges.dueTime(less, 0, 6, 1, 7);
    }

    // ---- promise 29

    @Edge(promise = 29, says = "NUMBER: there is no such place")
    private static void besideNoPlace() {
        for (int bad : Edges.outside(0, 3)) {
            Edges.refused("place " + bad, Edges::busy, x -> x.beside(bad), NUMBER);
            Edges.refused("place " + bad, TimesBench::new, x -> x.beside(bad), NUMBER);
        }
    }

    @Edge(promise = 29, says = "STATE: nothing is KEPT there")
    private static void besideNothing() {
        Edges.refused("place 0", Edges::busy, x -> x.beside(0), STATE);
        Edges.refused("place 2", Edges::busy, x -> x.beside(2), STATE);
        for (int p = 0; p < 4; p++) {
            int place = p;
            Edges.refused("place " + p, TimesBench::new, x -> x.beside(place), STATE);
        }
    }

    @Edge(promise = 29, says = "LARGE: a SIZE would be above 9.")
    private static void besideLarge() {
        for (int n = 0; n < 3; n++) {
            int way = n;
            Edges.refused("9 and 1", () -> two(sizes(1, 1, 1), 1, sizesBut(1, way, 9), 1), x -> x.beside(2), LARGE);
            Edges.refused("1 and 9", () -> two(sizesBut(1, way, 9), 1, sizes(1, 1, 1), 1), x -> x.beside(2), LARGE);
            Edges.refused("5 and 5", () -> two(sizesBut(2, way, 5), 1, sizesBut(1, way, 5), 1), x -> x.beside(2),
                    LARGE);
        }
    }

    @Edge(promise = 29, says = "SIZES are added, indices of p's come behind")
    private static void besideToNine() {
        for (int way = 0; way < 3; way++) {
            TimesBench x = two(sizesBut(1, way, 4), 0, sizesBut(2, way, 5), 0);
            due("beside", x.beside(2), 0);
            int[] all = sizesBut(3, way, 9);
            Edges.dueSizes(x, all[0], all[1], all[2]);
            due("the last place", x.at(all[0] - 1, all[1] - 1, all[2] - 1), 6);
            int[] own = sizesBut(2, way, 5);
            due("the last place of its own", x.at(own[0] - 1, own[1] - 1, own[2] - 1), 6);
            due("no more", x.many(5), 2);
        }
        TimesBench x = two(sizes(8, 8, 8), 0, sizes(1, 1, 1), 0);
        due("beside", x.beside(2), 0);
        Edges.dueSizes(x, 9, 9, 9);
        due("its own", x.at(0, 0, 0), 6);
        due("the other's", x.at(8, 8, 8), 6);
        due("no more", x.many(5), 2);
    }

    @Edge(promise = 29, says = "FULL: more than 40 TIMES.")
    private static void besideFull() {
        Edges.refused("41", () -> two(sizes(1, 1, 1), 20, sizes(1, 1, 1), 21), x -> x.beside(2), FULL);
        Edges.refused("41", () -> two(sizes(1, 1, 1), 1, sizes(2, 1, 1), 40), x -> x.beside(2), FULL);
        Edges.refused("41", () -> two(sizes(1, 2, 1), 40, sizes(1, 1, 1), 1), x -> x.beside(2), FULL);
    }

    @Edge(promise = 29, says = "how many TIMES")
    private static void besideToForty() {
        int[][] times = {{20, 20}, {40, 0}, {0, 40}, {1, 39}};
        for (int[] both : times) {
            TimesBench x = two(sizes(1, 1, 1), both[0], sizes(1, 1, 1), both[1]);
            due("forty", x.beside(2), 40);
            due("how many", x.many(4), 40);
            for (int t = 0; t < 40; t++) {
                int told = t < both[1] ? 1 : 7;
                Edges.dueTime(x, t, told, told, told);
            }
            due("no more", x.time(1, 1, 1), FULL);
        }
        due("no times", two(sizes(1, 1, 1), 0, sizes(1, 1, 1), 0).beside(2), 0);
    }

    @Edge(promise = 29, says = "Of several refusals that a call names the first one named is answered.")
    private static void besideLargeAheadOfFull() {
        for (int n = 0; n < 3; n++) {
            int way = n;
            Edges.refused("10, and 41 times", () -> two(sizes(1, 1, 1), 20, sizesBut(1, way, 9), 21),
                    x -> x.beside(2), LARGE);
        }
        Edges.refused("no place, and 10", () -> two(sizes(1, 1, 1), 0, sizes(9, 1, 1), 0), x -> x.beside(4), NUMBER);
        Edges.refused("nothing, and no room", () -> two(sizes(1, 1, 1), 0, sizes(9, 1, 1), 40), x -> x.beside(1),
                STATE);
    }

    @Edge(promise = 29, says = "(each has 0 at the other's indices)")
    private static void besideOfGreatestRows() {
        TimesBench x = Edges.onBox(7, 4, 4, 4);
        x.time(2400, 2400, 2400);
        x.keep(3);
        x.box(5, 5, 5);
        x.time(16806, 16806, 16806);
        due("beside", x.beside(3), 2);
        Edges.dueTime(x, 0, 16806, 16806, 16806);
        Edges.dueTime(x, 1, GREATEST - 16806, GREATEST - 16806, GREATEST - 16806);
        due("moves", x.many(6), 0);
    }

    @Edge(promise = 29, says = "noughts IN HAND")
    private static void besideEmptiesHands() {
        Edges.dueNoughtsInHand(() -> Edges.busyThen(x -> x.beside(1)));
        Edges.dueNoughtsInHand(() -> Edges.busyThen(x -> x.beside(3)));
    }

    @Edge(promise = 29, says = "That in place p is put side by side with THE BOX")
    private static void besideItself() {
        TimesBench x = Edges.busy();
        x.keep(0);
        due("beside", x.beside(0), 8);
        Edges.dueSizes(x, 4, 6, 4);
        due("its own", x.at(1, 2, 1), 3);
        due("the other's", x.at(3, 5, 3), 3);
        due("places", x.many(5), 8);
        Edges.dueTime(x, 2, 5, 25, 20);
        Edges.dueTime(x, 6, 125, 3125, 500);
        due("what is kept stays", x.back(0), 1);
        Edges.dueSizes(x, 2, 3, 2);
        due("its times", x.many(4), 4);
    }

    // ---- promise 30

    @Edge(promise = 30, says = "NUMBER likewise.")
    private static void withinNoPlace() {
        for (int bad : Edges.outside(0, 3)) {
            Edges.refused("place " + bad, Edges::busy, x -> x.within(bad), NUMBER);
            Edges.refused("place " + bad, TimesBench::new, x -> x.within(bad), NUMBER);
        }
    }

    @Edge(promise = 30, says = "STATE likewise.")
    private static void withinNothing() {
        Edges.refused("place 0", Edges::busy, x -> x.within(0), STATE);
        Edges.refused("place 2", Edges::busy, x -> x.within(2), STATE);
        for (int p = 0; p < 4; p++) {
            int place = p;
            Edges.refused("place " + p, TimesBench::new, x -> x.within(place), STATE);
        }
    }

    @Edge(promise = 30, says = "LARGE likewise: a SIZE would be above 9.")
    private static void withinLarge() {
        for (int n = 0; n < 3; n++) {
            int way = n;
            Edges.refused("5 times 2", () -> two(sizesBut(1, way, 2), 1, sizesBut(1, way, 5), 1), x -> x.within(2),
                    LARGE);
            Edges.refused("2 times 5", () -> two(sizesBut(1, way, 5), 1, sizesBut(2, way, 2), 1), x -> x.within(2),
                    LARGE);
            Edges.refused("9 times 9", () -> two(sizesBut(1, way, 9), 1, sizesBut(1, way, 9), 1), x -> x.within(2),
                    LARGE);
        }
    }

    @Edge(promise = 30, says = "index i of THE BOX and i' of p's becomes i times p's SIZE and i' more")
    private static void withinToNine() {
        for (int way = 0; way < 3; way++) {
            TimesBench x = two(sizesBut(1, way, 3), 0, sizesBut(2, way, 3), 0);
            due("within", x.within(2), 0);
            int[] all = sizesBut(2, way, 9);
            Edges.dueSizes(x, all[0], all[1], all[2]);
            due("the last place: 36 is 1", x.at(all[0] - 1, all[1] - 1, all[2] - 1), 1);
            due("no more", x.many(5), 1);
        }
        int[][] pairs = {{1, 9}, {9, 1}, {3, 3}};
        for (int[] pair : pairs) {
            TimesBench x = two(sizes(pair[0], pair[0], pair[0]), 0, sizes(pair[1], pair[1], pair[1]), 0);
            due("within", x.within(2), 0);
            Edges.dueSizes(x, 9, 9, 9);
            due("the last place", x.at(8, 8, 8), 1);
            due("no more", x.many(5), 1);
        }
    }

    @Edge(promise = 30, says = "FULL likewise: more than 40 TIMES.")
    private static void withinFull() {
        Edges.refused("42", () -> two(sizes(1, 1, 1), 3, sizes(1, 1, 1), 14), x -> x.within(2), FULL);
        Edges.refused("42", () -> two(sizes(1, 1, 1), 6, sizes(2, 1, 1), 7), x -> x.within(2), FULL);
        Edges.refused("80", () -> two(sizes(1, 1, 2), 2, sizes(1, 1, 1), 40), x -> x.within(2), FULL);
        Edges.refused("1600", () -> two(sizes(1, 1, 1), 40, sizes(1, 1, 1), 40), x -> x.within(2), FULL);
    }

    @Edge(promise = 30, says = "how many TIMES")
    private static void withinToForty() {
        int[][] times = {{5, 8}, {8, 5}, {1, 40}, {40, 1}, {2, 20}};
        for (int[] both : times) {
            TimesBench x = two(sizes(1, 1, 1), both[0], sizes(1, 1, 1), both[1]);
            due("forty", x.within(2), 40);
            due("how many", x.many(4), 40);
            Edges.dueTime(x, 39, 1, 1, 1);
            due("no more", x.time(1, 1, 1), FULL);
        }
        int[][] none = {{0, 40}, {40, 0}, {0, 0}};
        for (int[] both : none) {
            TimesBench x = two(sizes(1, 1, 1), both[0], sizes(1, 1, 1), both[1]);
            due("none", x.within(2), 0);
            due("how many", x.many(4), 0);
            due("no moves", x.many(6), 0);
        }
    }

    @Edge(promise = 30, says = "Of several refusals that a call names the first one named is answered.")
    private static void withinLargeAheadOfFull() {
        for (int n = 0; n < 3; n++) {
            int way = n;
            Edges.refused("10, and 42 times", () -> two(sizesBut(1, way, 2), 6, sizesBut(1, way, 5), 7),
                    x -> x.within(2), LARGE);
        }
        Supplier<TimesBench> made = () -> two(sizes(2, 1, 1), 6, sizes(5, 1, 1), 7);
        Edges.refused("no place, 10, and 42 times", made, x -> x.within(-1), NUMBER);
        Edges.refused("nothing there", made, x -> x.within(3), STATE);
    }

    @Edge(promise = 30, says = "t is the product of both; ROWS of products likewise")
    private static void withinWraps() {
        TimesBench x = Edges.onBox(7, 3, 3, 3);
        x.time(342, 342, 342);
        x.keep(0);
        due("all 6 times all 6", x.within(0), 1);
        // 36 is 1.
        Edges.dueTime(x, 0, 6725601, 6725601, 6725601);
        x.box(3, 3, 3);
        x.time(294, 6, 342);
        due("6 at the last, at the first, at all", x.within(0), 1);
        Edges.dueTime(x, 0, 57 * 117649, 57, 6725601);
    }

    @Edge(promise = 30, says = "for each of THE SCHEME's, in order, with each of p's, in order")
    private static void withinInOrder() {
        TimesBench x = Edges.onBox(7, 1, 1, 1);
        x.time(1, 1, 2);
        x.time(1, 1, 3);
        x.keep(0);
        x.box(1, 1, 1);
        x.time(1, 1, 4);
        x.time(1, 1, 5);
        due("within", x.within(0), 4);
        int[] products = {8 % 7, 12 % 7, 10 % 7, 15 % 7};
        for (int t = 0; t < 4; t++) {
            Edges.dueTime(x, t, 1, 1, products[t]);
        }
    }

    @Edge(promise = 30, says = "noughts IN HAND")
    private static void withinEmptiesHands() {
        Edges.dueNoughtsInHand(() -> Edges.busyThen(x -> x.within(1)));
        Edges.dueNoughtsInHand(() -> Edges.busyThen(x -> x.within(3)));
    }

    @Edge(promise = 30, says = "That in place p is put within each place of THE BOX")
    private static void withinItself() {
        TimesBench x = Edges.busy();
        x.back(1);
        due("within", x.within(1), 1);
        Edges.dueSizes(x, 1, 4, 1);
        due("16 is 1", x.at(0, 3, 0), 1);
        due("no more", x.many(5), 1);
        // u is 9; v is 2 1 by 2 1; w is 4.
        Edges.dueTime(x, 0, 4, 4 + 2 * 5 + 2 * 25 + 125, 4);
        due("what is kept stays", x.back(1), 1);
        Edges.dueSizes(x, 1, 2, 1);
        Edges.dueTime(x, 0, 3, 7, 2);
    }
}
