import java.util.function.Supplier;

/** The boundary cases of promises 14 to 20: schemes checked, made less, moved and turned. */
public final class SchemeEdgesTest {
    private static final int NUMBER = Edges.NUMBER;
    private static final int STATE = Edges.STATE;
    private static final int GREATEST = Edges.GREATEST_ROW;
    /** A row of nine ones over 7. */
    private static final int NINE_ONES = 6725601;

    public static void main(String[] args) throws Exception {
        Edges.run(SchemeEdgesTest.class, 14, 20);
    }

    private static void due(String what, int got, int want) {
        Edges.due(what, got, want);
    }

    private static void due(String what, boolean got, boolean want) {
        Edges.due(what, got, want);
    }

    /** A box of sizes all the same with just these times. */
    private static TimesBench scheme(int p, int size, int[]... times) {
        TimesBench x = Edges.onBox(p, size, size, size);
        for (int t = 0; t < times.length; t++) {
            due("time", x.time(times[t][0], times[t][1], times[t][2]), t);
        }
        return x;
    }

    private static int[] time(int u, int v, int w) {
        return new int[] {u, v, w};
    }

    private static void dueScheme(TimesBench x, int[]... times) {
        due("how many times", x.many(4), times.length);
        for (int t = 0; t < times.length; t++) {
            Edges.dueTime(x, t, times[t][0], times[t][1], times[t][2]);
        }
    }

    // ---- promise 14

    @Edge(promise = 14, says = "It MAKES THE BOX if what all its TIMES add together is t at each place.")
    private static void noTimesMakeNoughts() {
        due("the least box", new TimesBench().makes(), true);
        TimesBench x = Edges.onBox(7, 9, 9, 9);
        due("the largest box", x.makes(), true);
        x.set(8, 8, 8, 1);
        due("its last place isn't 0", x.makes(), false);
        x.set(8, 8, 8, 0);
        x.set(0, 0, 0, 6);
        due("its first place isn't 0", x.makes(), false);
    }

    @Edge(promise = 14, says = "NUMBERS are 0 to P - 1, and are reckoned modulo P.")
    private static void timesWrapToNought() {
        for (int p : new int[] {2, 3, 5, 7}) {
            TimesBench x = Edges.on(p);
            Edges.addTimes(x, p - 1);
            due("P - 1 are not 0", x.makes(), false);
            x.time(1, 1, 1);
            due("P are 0", x.makes(), true);
            x.time(1, 1, 1);
            x.set(0, 0, 0, 1);
            due("P + 1 are 1", x.makes(), true);
            x.set(0, 0, 0, p - 1);
            x.box(1, 1, 1);
            x.time(p - 1, p - 1, p - 1);
            x.set(0, 0, 0, p - 1);
            due("thrice P - 1 is P - 1", x.makes(), true);
        }
    }

    @Edge(promise = 14, says = "is t at each place")
    private static void oneTimeMakesFullBox() {
        TimesBench x = Edges.fullBox(7);
        x.time(NINE_ONES, NINE_ONES, NINE_ONES);
        due("all places", x.makes(), true);
        x.set(8, 8, 8, 0);
        due("all but the last", x.makes(), false);
    }

    @Edge(promise = 14, says = "at most 40")
    private static void fortyTimesMake() {
        TimesBench x = Edges.on(7);
        Edges.addTimes(x, 40);
        x.set(0, 0, 0, 40 % 7);
        due("forty", x.makes(), true);
        x.drop(39);
        due("all but the last one", x.makes(), false);
    }

    // ---- promise 15

    @Edge(promise = 15, says = "-1 if there is none such.")
    private static void offOfNone() {
        // Three places: two of the box, and one of the scheme.
        Supplier<TimesBench> made = () -> {
            TimesBench x = scheme(3, 2, time(3, 3, 3));
            x.set(0, 0, 1, 1);
            x.set(1, 0, 0, 2);
            x.hand(0, 1, 1);
            x.hand(1, 1, 1);
            return x;
        };
        for (int bad : Edges.outside(0, 2)) {
            Edges.refused("n " + bad, made, x -> x.off(bad), -1);
        }
        due("the first", made.get().off(0), 1);
        due("the second", made.get().off(1), 100);
        due("the last", made.get().off(2), 111);
    }

    @Edge(promise = 15, says = "-1 if there is none such.")
    private static void offOfWhatIsMade() {
        for (int n : new int[] {Integer.MIN_VALUE, -1, 0, 1, Integer.MAX_VALUE}) {
            due("nothing is off", new TimesBench().off(n), -1);
        }
        TimesBench x = Edges.fullBox(7);
        x.time(NINE_ONES, NINE_ONES, NINE_ONES);
        due("nothing is off in a full box", x.off(0), -1);
    }

    @Edge(promise = 15, says = "the n-th (from 0 on, by i, j, k): 100 i + 10 j + k")
    private static void offOfAllPlaces() {
        TimesBench x = Edges.fullBox(2);
        due("the first", x.off(0), 0);
        due("the last k", x.off(8), 8);
        due("the next j", x.off(9), 10);
        due("the last j", x.off(80), 88);
        due("the next i", x.off(81), 100);
        due("the last", x.off(728), 888);
        due("one behind", x.off(729), -1);
    }

    @Edge(promise = 15, says = "the places where what THE SCHEME adds is not t")
    private static void offModuloP() {
        TimesBench x = scheme(5, 1, time(4, 4, 4), time(1, 1, 1));
        due("65 is 0", x.off(0), -1);
        x.set(0, 0, 0, 1);
        due("0 isn't 1", x.off(0), 0);
    }

    // ---- promise 16

    @Edge(promise = 16, says = "how many TIMES went.")
    private static void lessOfNothing() {
        TimesBench x = new TimesBench();
        due("no times", x.less(), 0);
        TimesBench one = scheme(2, 2, time(1, 2, 3));
        due("one time", one.less(), 0);
        dueScheme(one, time(1, 2, 3));
        TimesBench y = scheme(3, 2, time(1, 1, 1), time(1, 3, 3), time(3, 1, 4), time(4, 4, 1));
        due("only one row alike", y.less(), 0);
        dueScheme(y, time(1, 1, 1), time(1, 3, 3), time(3, 1, 4), time(4, 4, 1));
    }

    @Edge(promise = 16, says = "(a) the first TIME with a ROW of noughts goes")
    private static void lessOfNoughts() {
        TimesBench x = scheme(5, 2, time(1, 1, 1), time(0, 7, 7), time(5, 5, 5), time(7, 0, 7), time(7, 7, 0),
                time(6, 8, 9), time(0, 0, 0));
        due("four", x.less(), 4);
        dueScheme(x, time(1, 1, 1), time(5, 5, 5), time(6, 8, 9));
        TimesBench all = Edges.onBox(7, 9, 9, 9);
        for (int t = 0; t < 40; t++) {
            all.time(t % 3 == 0 ? 0 : GREATEST, t % 3 == 1 ? 0 : GREATEST, t % 3 == 2 ? 0 : GREATEST);
        }
        due("all forty", all.less(), 40);
        due("none is left", all.many(4), 0);
    }

    @Edge(promise = 16, says = "the first of these that can")
    private static void lessNoughtsAheadOfAlike() {
        // The first two come to noughts and go, ahead of the last one's being added to them.
        TimesBench x = scheme(5, 2, time(1, 1, 1), time(1, 1, 4), time(5, 5, 5), time(1, 1, 2));
        due("two", x.less(), 2);
        dueScheme(x, time(5, 5, 5), time(1, 1, 2));
    }

    @Edge(promise = 16, says = "(the first such, by s, then by t)")
    private static void lessByTheFirstT() {
        TimesBench x = scheme(2, 2, time(1, 1, 1), time(2, 1, 1), time(1, 1, 2));
        due("one", x.less(), 1);
        dueScheme(x, time(3, 1, 1), time(1, 1, 2));
    }

    @Edge(promise = 16, says = "(the first such, by s, then by t)")
    private static void lessByTheFirstS() {
        // 0 and 3 come ahead of 1 and 2, and what becomes of 0 is alike to 1 in u and w.
        TimesBench x = scheme(2, 2, time(1, 1, 1), time(1, 2, 3), time(2, 2, 3), time(1, 1, 2));
        due("two", x.less(), 2);
        dueScheme(x, time(1, 3, 3), time(2, 2, 3));
    }

    @Edge(promise = 16, says = "(u and v, by f and g; else u and w; else v and w)")
    private static void lessByEachTwo() {
        TimesBench uv = scheme(7, 2, time(8, 1, 7), time(24, 5, 1));
        due("u by 3, v by 5: w is 7 and 15 times 1", uv.less(), 1);
        dueScheme(uv, time(8, 1, 8));
        TimesBench uw = scheme(7, 2, time(8, 7, 1), time(24, 1, 5));
        due("u by 3, w by 5: v is 7 and 15 times 1", uw.less(), 1);
        dueScheme(uw, time(8, 8, 1));
        TimesBench vw = scheme(7, 2, time(7, 8, 1), time(1, 24, 4));
        due("v by 3, w by 4: u is 7 and 12 times 1", vw.less(), 1);
        dueScheme(vw, time(12, 8, 1));
        TimesBench all = scheme(5, 1, time(1, 1, 1), time(2, 2, 2));
        due("all three: u and v", all.less(), 1);
        dueScheme(all, time(1, 1, 4));
    }

    @Edge(promise = 16, says = "as long as one of these can be done")
    private static void lessOfForty() {
        TimesBench x = Edges.on(7);
        Edges.addTimes(x, 40);
        due("40 is 5 modulo 7", x.less(), 39);
        dueScheme(x, time(1, 1, 5));
        TimesBench y = Edges.on(5);
        Edges.addTimes(y, 40);
        due("40 is 0 modulo 5", y.less(), 40);
        due("none is left", y.many(4), 0);
        TimesBench steps = scheme(2, 2, time(1, 1, 1), time(1, 2, 1), time(2, 3, 1), time(3, 3, 1));
        due("each makes the next possible, and noughts last", steps.less(), 4);
        due("none is left", steps.many(4), 0);
    }

    @Edge(promise = 16, says = "NUMBERS are 0 to P - 1, and are reckoned modulo P.")
    private static void lessOfGreatestRows() {
        TimesBench x = scheme(7, 9, time(GREATEST, GREATEST, GREATEST), time(NINE_ONES, NINE_ONES, 1));
        due("by 6 and 6", x.less(), 1);
        dueScheme(x, time(GREATEST, GREATEST, GREATEST - 6));
    }

    // ---- promise 17

    @Edge(promise = 17, says = "NUMBER: there is no such which")
    private static void moveOfNoWhich() {
        for (int bad : Edges.outside(0, 2)) {
            Edges.refused("which " + bad, Edges::busy, x -> x.move(bad, 0, 1), NUMBER);
        }
    }

    @Edge(promise = 17, says = "NUMBER: no such TIME")
    private static void moveOfNoTime() {
        for (int bad : Edges.outside(0, 3)) {
            Edges.refused("s " + bad, Edges::busy, x -> x.move(0, bad, 1), NUMBER);
            Edges.refused("t " + bad, Edges::busy, x -> x.move(0, 0, bad), NUMBER);
        }
        Edges.refused("no times", TimesBench::new, x -> x.move(0, 0, 1), NUMBER);
    }

    @Edge(promise = 17, says = "NUMBER: s is t")
    private static void moveOfOne() {
        for (int which = 0; which < 3; which++) {
            int way = which;
            Edges.refused("0 and 0", Edges::busy, x -> x.move(way, 0, 0), NUMBER);
            Edges.refused("3 and 3", Edges::busy, x -> x.move(way, 3, 3), NUMBER);
        }
    }

    @Edge(promise = 17, says = "STATE: it can't be done.")
    private static void moveOfUnlike() {
        Edges.refused("u", Edges::busy, x -> x.move(0, 0, 2), STATE);
        Edges.refused("v", Edges::busy, x -> x.move(1, 0, 1), STATE);
        Edges.refused("w", Edges::busy, x -> x.move(2, 1, 0), STATE);
    }

    @Edge(promise = 17, says = "and they aren't all 0")
    private static void moveOfNoughts() {
        Edges.refused("s", Edges::busy, x -> x.move(0, 3, 0), STATE);
        Edges.refused("t", Edges::busy, x -> x.move(0, 0, 3), STATE);
        for (int which = 0; which < 3; which++) {
            int way = which;
            Edges.refused("both", () -> scheme(3, 2, time(0, 0, 0), time(0, 0, 0)), x -> x.move(way, 0, 1), STATE);
        }
    }

    @Edge(promise = 17, says = "Of several refusals that a call names the first one named is answered.")
    private static void moveNumberAheadOfState() {
        // The u of 3 is noughts, so that nothing could be done with it either.
        Edges.refused("s is t", Edges::busy, x -> x.move(0, 3, 3), NUMBER);
        Edges.refused("no t", Edges::busy, x -> x.move(0, 3, 4), NUMBER);
    }

    @Edge(promise = 17, says = "Let the next two of u, v, w, u, v behind it be its NEXT and its LAST")
    private static void moveGoesAround() {
        TimesBench u = scheme(7, 1, time(1, 2, 3), time(3, 1, 1));
        due("u: v, then w", u.move(0, 0, 1), 1);
        dueScheme(u, time(1, 5, 3), time(1, 3, 5));
        TimesBench v = scheme(7, 1, time(2, 1, 3), time(1, 3, 1));
        due("v: w, then u", v.move(1, 0, 1), 1);
        dueScheme(v, time(2, 1, 6), time(6, 1, 3));
        TimesBench w = scheme(7, 1, time(2, 3, 1), time(1, 1, 3));
        due("w: u, then v", w.move(2, 0, 1), 1);
        dueScheme(w, time(5, 3, 1), time(3, 5, 1));
    }

    @Edge(promise = 17, says = "t's NEXT is added to s's NEXT, then s's LAST is taken off t's LAST")
    private static void moveToNoughtsLessensNothing() {
        TimesBench x = scheme(7, 1, time(1, 4, 1), time(3, 1, 1));
        due("move", x.move(0, 0, 1), 1);
        dueScheme(x, time(1, 0, 1), time(1, 3, 0));
    }

    @Edge(promise = 17, says = "s and t unlike")
    private static void moveOfFirstAndLast() {
        TimesBench x = Edges.onBox(3, 2, 2, 2);
        Edges.addTimes(x, 39);
        x.time(2, 3, 3);
        due("the last one and the first one", x.move(0, 39, 0), 1);
        // 1 is twice 2: u becomes 2, v 2; v of the last is 3 and 2; w is 1 less 3.
        Edges.dueTime(x, 0, 2, 2, 7);
        Edges.dueTime(x, 39, 2, 5, 3);
        Edges.dueTime(x, 1, 1, 1, 1);
        Edges.dueTime(x, 38, 1, 1, 1);
        due("how many", x.many(4), 40);
    }

    @Edge(promise = 17, says = "if that ROW of s and that ROW of t are ALIKE BY f")
    private static void moveByGreatestFactor() {
        TimesBench x = scheme(7, 9, time(NINE_ONES, 1, GREATEST), time(GREATEST, GREATEST, NINE_ONES));
        due("by 6", x.move(0, 0, 1), 1);
        // Six times all 6 are all 1; 1 is added to the first; 1 less 6 is 2.
        dueScheme(x, time(NINE_ONES, NINE_ONES + 1, GREATEST), time(NINE_ONES, NINE_ONES, 2 * NINE_ONES));
    }

    // ---- promise 18

    /** Three times alike in u alone: six moves, 0 1, 0 2, 1 0, 1 2, 2 0, 2 1. */
    private static TimesBench sixMoves() {
        TimesBench x = Edges.onBox(2, 1, 3, 3);
        x.time(1, 1, 1);
        x.time(1, 2, 2);
        x.time(1, 4, 4);
        due("moves", x.many(6), 6);
        return x;
    }

    @Edge(promise = 18, says = "NUMBER: n isn't 0 to 200.")
    private static void walkOfNoNumber() {
        for (int bad : Edges.outside(0, 200)) {
            Edges.refused("n " + bad, Edges::busy, x -> x.walk(1, bad), NUMBER);
            Edges.refused("n " + bad, Edges::busy, x -> x.walk(Integer.MIN_VALUE, bad), NUMBER);
        }
        Edges.refused("no times", TimesBench::new, x -> x.walk(0, 201), NUMBER);
    }

    @Edge(promise = 18, says = "n times")
    private static void walkOfNoStep() {
        TimesBench x = scheme(2, 2, time(1, 1, 1), time(1, 1, 1), time(0, 1, 1));
        due("how many", x.walk(5, 0), 3);
        dueScheme(x, time(1, 1, 1), time(1, 1, 1), time(0, 1, 1));
    }

    @Edge(promise = 18, says = "n times: x (seed at first) becomes 1103515245 x + 12345 (an int, wrapping)")
    private static void walkOfTwoHundred() {
        TimesBench once = new TimesBench();
        once.tables(3, 3, 3);
        once.plain();
        TimesBench steps = new TimesBench();
        steps.tables(3, 3, 3);
        steps.plain();
        int x = 20261117;
        for (int step = 0; step < 200; step++) {
            steps.walk(x, 1);
            x = 1103515245 * x + 12345;
        }
        int times = once.walk(20261117, 200);
        due("how many", times, steps.many(4));
        due("it has not come to an end", once.many(6) > 0, true);
        for (int t = 0; t < times; t++) {
            Edges.dueTime(once, t, steps.row(t, 0), steps.row(t, 1), steps.row(t, 2));
        }
        due("what is made stays", once.makes(), true);
    }

    @Edge(promise = 18, says = "(an int, wrapping)")
    private static void walkWraps() {
        // 12345: 0, and 0 modulo 6.
        TimesBench x = sixMoves();
        due("0", x.walk(0, 1), 3);
        dueScheme(x, time(1, 3, 1), time(1, 2, 3), time(1, 4, 4));
        // Then 12345 becomes 13622895711870, which is 3554416254 beyond 3171 times all ints: 54236, 2 modulo 6.
        x = sixMoves();
        due("0, two steps", x.walk(0, 2), 3);
        dueScheme(x, time(1, 3, 2), time(1, 1, 3), time(1, 4, 4));
        // 2^31 - 1103502900 is 1043980748: 15929, 5 modulo 6.
        x = sixMoves();
        due("the greatest", x.walk(Integer.MAX_VALUE, 1), 3);
        dueScheme(x, time(1, 1, 1), time(1, 2, 6), time(1, 6, 4));
    }

    @Edge(promise = 18, says = "the int's highest 16 bits, as a number of 16 bits without sign")
    private static void walkWithoutSign() {
        // 12345 - 2^31: the highest bits are 32768, 2 modulo 6.
        TimesBench x = sixMoves();
        due("the least", x.walk(Integer.MIN_VALUE, 1), 3);
        dueScheme(x, time(1, 1, 3), time(1, 3, 2), time(1, 4, 4));
        // -1103502900: 48697, 1 modulo 6.
        x = sixMoves();
        due("-1", x.walk(-1, 1), 3);
        dueScheme(x, time(1, 5, 1), time(1, 2, 2), time(1, 4, 5));
    }

    @Edge(promise = 18, says = "it ends when no MOVE can be done: how many TIMES there are then.")
    private static void walkWithoutMoves() {
        due("no times", new TimesBench().walk(1, 200), 0);
        // Nothing is made less where no move was done.
        TimesBench x = scheme(2, 2, time(0, 1, 1), time(1, 0, 2), time(2, 2, 0));
        due("noughts", x.walk(1, 200), 3);
        dueScheme(x, time(0, 1, 1), time(1, 0, 2), time(2, 2, 0));
        TimesBench one = scheme(2, 2, time(1, 1, 1));
        due("one time", one.walk(-7, 200), 1);
        dueScheme(one, time(1, 1, 1));
    }

    @Edge(promise = 18, says = "it ends when no MOVE can be done")
    private static void walkEndsOnItsWay() {
        TimesBench x = scheme(2, 2, time(1, 1, 1), time(1, 1, 1), time(2, 2, 2));
        due("two come to noughts and go, and one stays", x.walk(0, 200), 1);
        dueScheme(x, time(2, 2, 2));
    }

    @Edge(promise = 18, says = "is done, and THE SCHEME is LESSENED")
    private static void walkLessensBehindTheMove() {
        TimesBench x = scheme(2, 2, time(1, 1, 1), time(1, 2, 2), time(0, 3, 3));
        due("one step", x.walk(0, 1), 2);
        dueScheme(x, time(1, 3, 1), time(1, 2, 3));
    }

    // ---- promise 19

    @Edge(promise = 19, says = "what was j is i now, k is j, i is k")
    private static void aroundOfUnlikeSizes() {
        TimesBench x = Edges.onBox(7, 9, 1, 2);
        x.set(8, 0, 1, 6);
        x.set(0, 0, 1, 5);
        x.time(GREATEST, 6, 48);
        due("once", x.around(), 1);
        Edges.dueSizes(x, 1, 2, 9);
        due("the last place", x.at(0, 1, 8), 6);
        due("another one", x.at(0, 1, 0), 5);
        due("no more", x.many(5), 2);
        dueScheme(x, time(6, 48, GREATEST));
        due("twice", x.around(), 1);
        Edges.dueSizes(x, 2, 9, 1);
        due("the last place", x.at(1, 8, 0), 6);
        dueScheme(x, time(48, GREATEST, 6));
        due("thrice", x.around(), 1);
        Edges.dueSizes(x, 9, 1, 2);
        due("the last place", x.at(8, 0, 1), 6);
        due("another one", x.at(0, 0, 1), 5);
        due("no more", x.many(5), 2);
        dueScheme(x, time(GREATEST, 6, 48));
    }

    @Edge(promise = 19, says = "x and y IN HAND become noughts")
    private static void aroundEmptiesHands() {
        Edges.dueNoughtsInHand(() -> Edges.busyThen(x -> x.around()));
        Edges.dueNoughtsInHand(() -> {
            TimesBench x = Edges.onBox(3, 2, 2, 2);
            for (int n = 0; n < 4; n++) {
                x.hand(n / 2, n % 2, 2);
            }
            x.around();
            return x;
        });
    }

    @Edge(promise = 19, says = "THE BOX and each TIME are turned round")
    private static void aroundOfEmptyAndFull() {
        TimesBench least = new TimesBench();
        due("the least", least.around(), 1);
        Edges.dueSizes(least, 1, 1, 1);
        due("no times", least.many(4), 0);
        TimesBench full = Edges.fullBox(2);
        for (int t = 0; t < 40; t++) {
            full.time(t, t + 100, t + 200);
        }
        due("the largest", full.around(), 1);
        due("all places", full.many(5), 729);
        due("all times", full.many(4), 40);
        Edges.dueTime(full, 0, 100, 200, 0);
        Edges.dueTime(full, 39, 139, 239, 39);
    }

    @Edge(promise = 19, says = "THE BOX and each TIME are turned round")
    private static void aroundLeavesKept() {
        TimesBench x = Edges.busy();
        x.around();
        due("nothing there", x.back(0), STATE);
        due("back", x.back(1), 1);
        Edges.dueSizes(x, 1, 2, 1);
        dueScheme(x, time(3, 7, 2));
    }

    // ---- promise 20

    @Edge(promise = 20, says = "NUMBER: there is no such way")
    private static void turnOfNoWay() {
        for (int bad : Edges.outside(0, 2)) {
            Edges.refused("which " + bad, Edges::busy, x -> x.turn(bad, 0, 1, 1), NUMBER);
        }
    }

    @Edge(promise = 20, says = "NUMBER: a or b is no index of it")
    private static void turnOfNoIndex() {
        int[] most = {1, 2, 1};
        for (int which = 0; which < 3; which++) {
            int way = which;
            for (int bad : Edges.outside(0, most[which])) {
                Edges.refused("a " + bad, Edges::busy, x -> x.turn(way, bad, 0, 1), NUMBER);
                Edges.refused("b " + bad, Edges::busy, x -> x.turn(way, 0, bad, 1), NUMBER);
            }
        }
    }

    @Edge(promise = 20, says = "NUMBER: they are the same")
    private static void turnOfTheSame() {
        for (int which = 0; which < 3; which++) {
            int way = which;
            Edges.refused("0", Edges::busy, x -> x.turn(way, 0, 0, 1), NUMBER);
            Edges.refused("1", Edges::busy, x -> x.turn(way, 1, 1, 0), NUMBER);
            TimesBench least = new TimesBench();
            due("one index", least.turn(way, 0, 0, 1), NUMBER);
            due("one index", least.turn(way, 0, 1, 1), NUMBER);
            due("one index", least.turn(way, 1, 0, 1), NUMBER);
        }
    }

    @Edge(promise = 20, says = "NUMBER: f isn't 0 to P - 1.")
    private static void turnByNoNumber() {
        for (int which = 0; which < 3; which++) {
            int way = which;
            for (int bad : Edges.outside(0, 4)) {
                Edges.refused("f " + bad, Edges::busy, x -> x.turn(way, 0, 1, bad), NUMBER);
            }
        }
    }

    @Edge(promise = 20, says = "f times what is at index b is added")
    private static void turnByNought() {
        String before = Edges.lookThrough(Edges.busy());
        for (int which = 0; which < 3; which++) {
            int way = which;
            String after = Edges.lookThrough(Edges.busyThen(x -> x.turn(way, 0, 1, 0)));
            due("nothing is added", after.equals(before), true);
        }
    }

    @Edge(promise = 20, says = "NUMBERS are 0 to P - 1, and are reckoned modulo P.")
    private static void turnWraps() {
        for (int which = 0; which < 3; which++) {
            TimesBench x = Edges.onBox(7, 9, 9, 9);
            x.set(8, 8, 8, 6);
            x.set(which == 0 ? 0 : 8, which == 1 ? 0 : 8, which == 2 ? 0 : 8, 6);
            x.time(GREATEST, GREATEST, GREATEST);
            due("by 6", x.turn(which, 8, 0, 6), 1);
            // 6 and 6 times 6 are 42.
            due("the last place", x.at(8, 8, 8), 0);
            due("no more", x.many(5), 1);
            due("number 8 of that row", x.row(0, which), 5764800);
            due("no other row", x.row(0, (which + 1) % 3), GREATEST);
            due("no other row", x.row(0, (which + 2) % 3), GREATEST);
        }
    }

    @Edge(promise = 20, says = "At index a of one way of THE BOX f times what is at index b is added")
    private static void turnOfFirstAndLast() {
        TimesBench x = Edges.busy();
        due("j: 2 to 0 by 4", x.turn(1, 0, 2, 4), 1);
        due("at 1 0 1: 4 times 3", x.at(1, 0, 1), 2);
        due("at 1 0 0: as it was", x.at(1, 0, 0), 2);
        due("at 1 2 1: as it was", x.at(1, 2, 1), 3);
        due("places", x.many(5), 5);
        // Number 0 of v: 1 and 4, 1, 0 and 4, 4 and 16.
        dueScheme(x, time(6, 30, 7), time(12, 1, 5), time(5, 29, 20), time(0, 120, 24));
        // z(1) has 2 3 2 more.
        due("what is in hand stays", x.run(0), 4 + 0 * 5);
        due("kept ones stay", x.back(1), 1);
        dueScheme(x, time(3, 7, 2));
    }

    @Edge(promise = 20, says = "is added to all that is there")
    private static void turnOfUnlikeSizes() {
        int[][] boxes = {{0, 2, 9, 1}, {0, 2, 1, 9}, {1, 9, 2, 1}, {1, 1, 2, 9}, {2, 9, 1, 2}, {2, 1, 9, 2}};
        for (int[] box : boxes) {
            TimesBench x = Edges.onBox(3, box[1], box[2], box[3]);
            int[] last = {box[1] - 1, box[2] - 1, box[3] - 1};
            last[box[0]] = 0;
            x.set(last[0], last[1], last[2], 2);
            due("to the last index of that way", x.turn(box[0], 1, 0, 2), 1);
            due("what was there", x.at(last[0], last[1], last[2]), 2);
            last[box[0]] = 1;
            due("twice 2, at the last of the others", x.at(last[0], last[1], last[2]), 1);
            due("no more", x.many(5), 2);
        }
    }

    @Edge(promise = 20, says = "and to number a of that ROW of each TIME f times number b")
    private static void turnOfNoAndFortyTimes() {
        TimesBench none = Edges.onBox(3, 2, 1, 1);
        none.set(0, 0, 0, 2);
        due("no times", none.turn(0, 1, 0, 2), 1);
        due("twice 2", none.at(1, 0, 0), 1);
        due("no times", none.many(4), 0);
        TimesBench forty = Edges.onBox(3, 2, 1, 1);
        Edges.addTimes(forty, 40);
        due("forty times", forty.turn(0, 1, 0, 2), 1);
        for (int t = 0; t < 40; t++) {
            due("u", forty.row(t, 0), 7);
        }
        due("all are alike still", forty.many(6), 3 * 40 * 39);
    }
}
