import java.util.function.Supplier;

/** The boundary cases of promises 9 to 13: times that come, are asked for, change and go, and the plain scheme. */
public final class TimesEdgesTest {
    private static final int NUMBER = Edges.NUMBER;
    private static final int FULL = Edges.FULL;
    private static final int GREATEST = Edges.GREATEST_ROW;

    public static void main(String[] args) throws Exception {
        Edges.run(TimesEdgesTest.class, 9, 13);
    }

    private static void due(String what, int got, int want) {
        Edges.due(what, got, want);
    }

    /** As busy, with 36 times more: 40. */
    private static TimesBench busyAndFull() {
        TimesBench x = Edges.busy();
        for (int t = 4; t < 40; t++) {
            due("time", x.time(t % 25, t, 24 - t % 25), t);
        }
        return x;
    }

    // ---- promise 9

    @Edge(promise = 9, says = "NUMBER: u, v or w is no ROW")
    private static void timeOfNoRow() {
        for (int bad : Edges.outside(0, 24)) {
            Edges.refused("u " + bad, Edges::busy, x -> x.time(bad, 0, 0), NUMBER);
            Edges.refused("w " + bad, Edges::busy, x -> x.time(0, 0, bad), NUMBER);
        }
        for (int bad : Edges.outside(0, 124)) {
            Edges.refused("v " + bad, Edges::busy, x -> x.time(0, bad, 0), NUMBER);
        }
    }

    @Edge(promise = 9, says = "A ROW of NUMBERS is told as one: the sum of number i times P to the power of i.")
    private static void timeOfLeastAndGreatestRows() {
        for (int p : new int[] {2, 3, 5, 7}) {
            for (int size = 1; size <= 9; size++) {
                TimesBench x = Edges.onBox(p, size, size, size);
                int all = (int) Math.pow(p, size);
                due("the greatest", x.time(all - 1, all - 1, all - 1), 0);
                Edges.dueTime(x, 0, all - 1, all - 1, all - 1);
                due("noughts", x.time(0, 0, 0), 1);
                Edges.dueTime(x, 1, 0, 0, 0);
                due("u one above", x.time(all, 0, 0), NUMBER);
                due("v one above", x.time(0, all, 0), NUMBER);
                due("w one above", x.time(0, 0, all), NUMBER);
                due("how many", x.many(4), 2);
            }
        }
    }

    @Edge(promise = 9, says = "u of A, v of B, w of C numbers")
    private static void timeOfTheOwnSizes() {
        TimesBench x = Edges.onBox(7, 1, 2, 9);
        due("each its greatest", x.time(6, 48, GREATEST), 0);
        Edges.dueTime(x, 0, 6, 48, GREATEST);
        due("u is too long", x.time(7, 7, 7), NUMBER);
        due("v is too long", x.time(6, 49, 49), NUMBER);
        due("w is too long", x.time(6, 48, GREATEST + 1), NUMBER);
    }

    @Edge(promise = 9, says = "THE SCHEME is a row of TIMES, numbered from 0 on, at most 40.")
    private static void fortyTimes() {
        TimesBench x = Edges.onBox(2, 6, 6, 6);
        for (int t = 0; t < 40; t++) {
            due("its number", x.time(t, 63 - t, t + 1), t);
        }
        for (int t = 0; t < 40; t++) {
            Edges.dueTime(x, t, t, 63 - t, t + 1);
        }
    }

    @Edge(promise = 9, says = "FULL")
    private static void timeWhenFull() {
        Edges.refused("the 41st", TimesEdgesTest::busyAndFull, x -> x.time(1, 1, 1), FULL);
        Edges.refused("of noughts", TimesEdgesTest::busyAndFull, x -> x.time(0, 0, 0), FULL);
    }

    @Edge(promise = 9, says = "FULL = -2: There are as many as may be.")
    private static void roomAgainAfterDrop() {
        TimesBench x = busyAndFull();
        due("full", x.time(1, 2, 3), FULL);
        due("drop", x.drop(0), 39);
        due("room for one", x.time(1, 2, 3), 39);
        Edges.dueTime(x, 39, 1, 2, 3);
        due("full again", x.time(1, 2, 3), FULL);
    }

    @Edge(promise = 9, says = "Of several refusals that a call names the first one named is answered.")
    private static void timeNumberAheadOfFull() {
        Edges.refused("u", TimesEdgesTest::busyAndFull, x -> x.time(25, 1, 1), NUMBER);
        Edges.refused("v", TimesEdgesTest::busyAndFull, x -> x.time(1, 125, 1), NUMBER);
        Edges.refused("w", TimesEdgesTest::busyAndFull, x -> x.time(1, 1, -1), NUMBER);
    }

    // ---- promise 10

    @Edge(promise = 10, says = "-1 if there is none such.")
    private static void rowOfNone() {
        for (int bad : Edges.outside(0, 3)) {
            Edges.refused("t " + bad, Edges::busy, x -> x.row(bad, 0), -1);
        }
        for (int bad : Edges.outside(0, 2)) {
            Edges.refused("which " + bad, Edges::busy, x -> x.row(0, bad), -1);
            Edges.refused("both " + bad, Edges::busy, x -> x.row(4, bad), -1);
        }
        for (int which = 0; which < 3; which++) {
            due("no times", new TimesBench().row(0, which), -1);
        }
    }

    @Edge(promise = 10, says = "-1 if there is none such.")
    private static void rowOfFirstAndLast() {
        TimesBench x = busyAndFull();
        Edges.dueTime(x, 0, 6, 31, 7);
        Edges.dueTime(x, 39, 14, 39, 10);
        due("the 41st", x.row(40, 0), -1);
        x.drop(39);
        due("one that went", x.row(39, 0), -1);
    }

    // ---- promise 11

    @Edge(promise = 11, says = "NUMBER: there is no such TIME")
    private static void changeOfNoTime() {
        for (int bad : Edges.outside(0, 3)) {
            Edges.refused("t " + bad, Edges::busy, x -> x.change(bad, 0, 1), NUMBER);
        }
        for (int which = 0; which < 3; which++) {
            due("no times", new TimesBench().change(0, which, 0), NUMBER);
        }
        Edges.refused("40", TimesEdgesTest::busyAndFull, x -> x.change(40, 0, 1), NUMBER);
    }

    @Edge(promise = 11, says = "NUMBER: there is no such which")
    private static void changeOfNoWhich() {
        for (int bad : Edges.outside(0, 2)) {
            Edges.refused("which " + bad, Edges::busy, x -> x.change(0, bad, 1), NUMBER);
        }
    }

    @Edge(promise = 11, says = "NUMBER: it is no ROW.")
    private static void changeToNoRow() {
        int[] most = {24, 124, 24};
        for (int which = 0; which < 3; which++) {
            int way = which;
            for (int bad : Edges.outside(0, most[which])) {
                Edges.refused("row " + bad, Edges::busy, x -> x.change(3, way, bad), NUMBER);
            }
        }
    }

    @Edge(promise = 11, says = "ROW which of a TIME becomes another one: 1.")
    private static void changeToLeastAndGreatest() {
        TimesBench x = Edges.busy();
        due("u", x.change(0, 0, 24), 1);
        due("v", x.change(0, 1, 124), 1);
        due("w", x.change(0, 2, 24), 1);
        Edges.dueTime(x, 0, 24, 124, 24);
        due("u of the last", x.change(3, 0, 24), 1);
        due("v of the last", x.change(3, 1, 0), 1);
        due("w of the last", x.change(3, 2, 0), 1);
        Edges.dueTime(x, 3, 24, 0, 0);
        due("to the same", x.change(1, 0, 12), 1);
        Edges.dueTime(x, 1, 12, 1, 5);
        Edges.dueTime(x, 2, 5, 25, 20);
        TimesBench wide = Edges.onBox(7, 9, 9, 9);
        wide.time(0, 0, 0);
        for (int which = 0; which < 3; which++) {
            due("the greatest of all", wide.change(0, which, GREATEST), 1);
            due("one above", wide.change(0, which, GREATEST + 1), NUMBER);
        }
        Edges.dueTime(wide, 0, GREATEST, GREATEST, GREATEST);
    }

    // ---- promise 12

    @Edge(promise = 12, says = "NUMBER: there is none such.")
    private static void dropOfNone() {
        for (int bad : Edges.outside(0, 3)) {
            Edges.refused("t " + bad, Edges::busy, x -> x.drop(bad), NUMBER);
        }
        Edges.refused("no times", TimesBench::new, x -> x.drop(0), NUMBER);
        Edges.refused("40", TimesEdgesTest::busyAndFull, x -> x.drop(40), NUMBER);
    }

    @Edge(promise = 12, says = "those behind it move up")
    private static void dropOfFirstAndLast() {
        TimesBench x = Edges.busy();
        due("the first", x.drop(0), 3);
        Edges.dueTime(x, 0, 12, 1, 5);
        Edges.dueTime(x, 1, 5, 25, 20);
        Edges.dueTime(x, 2, 0, 124, 24);
        due("none behind", x.row(3, 0), -1);
        due("the last", x.drop(2), 2);
        Edges.dueTime(x, 0, 12, 1, 5);
        Edges.dueTime(x, 1, 5, 25, 20);
        due("that went", x.drop(2), NUMBER);
    }

    @Edge(promise = 12, says = "how many there are.")
    private static void dropOfAll() {
        TimesBench x = busyAndFull();
        for (int left = 39; left >= 0; left--) {
            due("how many", x.drop(left / 2), left);
        }
        due("no more", x.drop(0), NUMBER);
        due("the first one's number", x.time(1, 1, 1), 0);
    }

    @Edge(promise = 12, says = "A TIME goes")
    private static void dropLeavesNoMoveBehind() {
        TimesBench x = Edges.on(3);
        Edges.addTimes(x, 40);
        due("all are alike", x.many(6), 3 * 40 * 39);
        x.drop(39);
        due("one less", x.many(6), 3 * 39 * 38);
        x.drop(0);
        due("two less", x.many(6), 3 * 38 * 37);
        x.time(0, 1, 2);
        due("another one, alike in v and w", x.many(6), 38 * 37 + 2 * 39 * 38);
        x.drop(38);
        x.time(2, 2, 2);
        due("another one, alike in all", x.many(6), 3 * 39 * 38);
    }

    // ---- promise 13

    @Edge(promise = 13, says = "FULL: more than 40.")
    private static void plainOfFortyAndMore() {
        TimesBench x = Edges.on(7);
        // Each of 5 by 8 places has one k.
        x.rows(5, 8, 2);
        due("40", x.plain(), 40);
        due("makes", x.makes() ? 1 : 0, 1);
        Supplier<TimesBench> more = () -> {
            TimesBench y = Edges.on(7);
            y.rows(2, 2, 2);
            y.keep(2);
            y.rows(5, 8, 2);
            y.time(1, 2, 3);
            y.hand(0, 0, 1);
            y.hand(1, 0, 1);
            y.set(4, 7, 0, 6);
            return y;
        };
        due("41 places", more.get().many(5), 41);
        Edges.refused("41", more, y -> y.plain(), FULL);
    }

    @Edge(promise = 13, says = "FULL: more than 40.")
    private static void plainOfFullBox() {
        TimesBench x = Edges.fullBox(7);
        x.time(1, 2, 3);
        due("729", x.plain(), FULL);
        due("how many", x.many(4), 1);
        Edges.dueTime(x, 0, 1, 2, 3);
    }

    @Edge(promise = 13, says = "for each place of THE BOX with no 0")
    private static void plainOfEmptyBox() {
        TimesBench x = Edges.onBox(5, 9, 9, 9);
        Edges.addTimes(x, 40);
        due("no places", x.plain(), 0);
        due("no times", x.many(4), 0);
        due("no moves", x.many(6), 0);
    }

    @Edge(promise = 13, says = "THE SCHEME becomes")
    private static void plainAfterFullScheme() {
        TimesBench x = Edges.onBox(3, 1, 1, 2);
        Edges.addTimes(x, 40);
        x.set(0, 0, 1, 2);
        due("those that were are gone", x.plain(), 1);
        due("how many", x.many(4), 1);
        Edges.dueTime(x, 0, 1, 1, 6);
    }

    @Edge(promise = 13, says = "a TIME with 1 at i alone, 1 at j alone, t(i, j, k) at k alone")
    private static void plainOfTheLastPlace() {
        TimesBench x = Edges.onBox(7, 9, 9, 9);
        x.set(8, 8, 8, 6);
        due("one", x.plain(), 1);
        Edges.dueTime(x, 0, 5764801, 5764801, 6 * 5764801);
        x.set(0, 0, 0, 5);
        due("two", x.plain(), 2);
        Edges.dueTime(x, 0, 1, 1, 5);
        Edges.dueTime(x, 1, 5764801, 5764801, 6 * 5764801);
    }

    @Edge(promise = 13, says = "by i, then j, then k")
    private static void plainInOrder() {
        TimesBench x = Edges.onBox(3, 2, 2, 2);
        for (int n = 7; n >= 0; n--) {
            x.set(n / 4, n / 2 % 2, n % 2, 1 + n % 2);
        }
        due("all places", x.plain(), 8);
        for (int n = 0; n < 8; n++) {
            Edges.dueTime(x, n, n / 4 == 0 ? 1 : 3, n / 2 % 2 == 0 ? 1 : 3, n % 2 == 0 ? 1 : 6);
        }
    }
}
