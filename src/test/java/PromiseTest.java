/** For each promise of the document: ordinary calls, the edges it names, and wrong ones; reckoned by hand. */
public final class PromiseTest {
    private static final int NUMBER = -1;
    private static final int FULL = -2;
    private static final int LARGE = -3;
    private static final int STATE = -4;
    private static final int ABOVE = -5;
    private static final int[] FAR = {Integer.MIN_VALUE, -2, -1, 10, 100, Integer.MAX_VALUE};
    private static int wrong = 0;

    public static void main(String[] args) {
        newObject();
        ground();
        box();
        tables();
        rows();
        setAndAt();
        many();
        time();
        rowChangeDrop();
        plain();
        makesAndOff();
        less();
        lessByOrder();
        move();
        walk();
        around();
        turn();
        rank();
        least();
        leastIsLarge();
        find();
        findRefused();
        handAndRun();
        sums();
        keepAndBack();
        beside();
        besideRefused();
        within();
        withinRefused();
        System.out.println(wrong == 0 ? "promises: all answers are as due" : wrong + " answers are not as due");
        if (wrong != 0) {
            System.exit(1);
        }
    }

    private static void due(int promise, String what, int got, int want) {
        if (got != want) {
            wrong++;
            System.out.println("promise " + promise + ", " + what + ": " + got + ", due is " + want);
        }
    }

    private static void due(int promise, String what, boolean got, boolean want) {
        due(promise, what, got ? 1 : 0, want ? 1 : 0);
    }

    private static void dueTime(int promise, TimesBench x, int t, int... rows) {
        for (int which = 0; which < 3; which++) {
            due(promise, "row(" + t + ", " + which + ")", x.row(t, which), rows[which]);
        }
    }

    private static void dueSizes(int promise, TimesBench x, int a, int b, int c) {
        due(promise, "A", x.many(1), a);
        due(promise, "B", x.many(2), b);
        due(promise, "C", x.many(3), c);
    }

    private static TimesBench on(int p) {
        TimesBench x = new TimesBench();
        due(2, "ground(" + p + ")", x.ground(p), 1);
        return x;
    }

    private static TimesBench onBox(int p, int a, int b, int c) {
        TimesBench x = on(p);
        due(3, "box", x.box(a, b, c), 1);
        return x;
    }

    /** The seven times that multiply tables of 2 by 2, over 2. */
    private static TimesBench strassen() {
        TimesBench x = new TimesBench();
        x.tables(2, 2, 2);
        int[][] times = {{9, 9, 9}, {12, 1, 12}, {1, 10, 10}, {8, 5, 5}, {3, 8, 3}, {5, 3, 8}, {10, 12, 1}};
        for (int t = 0; t < times.length; t++) {
            due(9, "time", x.time(times[t][0], times[t][1], times[t][2]), t);
        }
        return x;
    }

    private static void fillTimes(TimesBench x, int n) {
        for (int t = 0; t < n; t++) {
            x.time(1, 1, 1);
        }
    }

    private static void newObject() {
        TimesBench x = new TimesBench();
        due(1, "P", x.many(0), 2);
        dueSizes(1, x, 1, 1, 1);
        due(1, "times", x.many(4), 0);
        due(1, "at", x.at(0, 0, 0), 0);
        due(1, "makes", x.makes(), true);
        for (int p = 0; p < 4; p++) {
            due(1, "back", x.back(p), STATE);
        }
        x.set(0, 0, 0, 1);
        due(1, "noughts in hand", x.run(0), 0);
    }

    private static void ground() {
        TimesBench x = onBox(7, 2, 2, 2);
        x.set(0, 0, 0, 6);
        x.time(1, 1, 1);
        x.keep(3);
        x.hand(0, 0, 1);
        x.hand(1, 0, 1);
        for (int p : new int[] {Integer.MIN_VALUE, -7, -1, 0, 1, 4, 6, 8, 9, 11, Integer.MAX_VALUE}) {
            due(2, "ground", x.ground(p), NUMBER);
        }
        due(2, "P is as it was", x.many(0), 7);
        due(2, "the scheme is as it was", x.many(4), 1);
        due(2, "what is in hand is as it was", x.run(0), 6);
        due(2, "what is kept is as it was", x.back(3), 1);
        x.hand(0, 0, 1);
        x.hand(1, 0, 1);
        due(2, "the same ground", x.ground(7), 1);
        dueSizes(2, x, 1, 1, 1);
        due(2, "times", x.many(4), 0);
        due(2, "places", x.many(5), 0);
        due(2, "nothing kept", x.back(3), STATE);
        x.set(0, 0, 0, 1);
        due(2, "noughts in hand", x.run(0), 0);
        for (int p : new int[] {2, 3, 5, 7}) {
            due(2, "ground", x.ground(p), 1);
            due(2, "P", x.many(0), p);
            due(2, "the greatest number", x.set(0, 0, 0, p - 1), 0);
            due(2, "one above", x.set(0, 0, 0, p), NUMBER);
        }
    }

    private static void box() {
        TimesBench x = on(3);
        due(3, "box", x.box(2, 3, 4), 1);
        dueSizes(3, x, 2, 3, 4);
        x.set(1, 2, 3, 2);
        x.time(1, 1, 1);
        x.hand(0, 1, 1);
        x.hand(1, 2, 1);
        for (int bad : FAR) {
            due(3, "a", x.box(bad, 1, 1), NUMBER);
            due(3, "b", x.box(1, bad, 1), NUMBER);
            due(3, "c", x.box(1, 1, bad), NUMBER);
        }
        due(3, "nought", x.box(0, 1, 1), NUMBER);
        due(3, "as it was", x.run(0), 54);
        due(3, "the same sizes", x.box(2, 3, 4), 1);
        due(3, "all is 0", x.many(5), 0);
        due(3, "times", x.many(4), 0);
        x.set(1, 2, 3, 2);
        due(3, "noughts in hand", x.run(0), 0);
        due(3, "the largest", x.box(9, 9, 9), 1);
        due(3, "its last place", x.set(8, 8, 8, 1), 0);
        due(3, "places", x.many(5), 1);
    }

    private static void tables() {
        TimesBench x = on(5);
        due(4, "tables", x.tables(2, 3, 1), 1);
        dueSizes(4, x, 6, 3, 2);
        due(4, "places", x.many(5), 6);
        for (int r = 0; r < 2; r++) {
            for (int s = 0; s < 3; s++) {
                due(4, "at", x.at(3 * r + s, s, r), 1);
            }
        }
        due(4, "another place", x.at(0, 0, 1), 0);
        due(4, "tables", x.tables(2, 2, 2), 1);
        due(4, "r 0, s 1, q 0", x.at(1, 2, 0), 1);
        due(4, "r 1, s 0, q 1", x.at(2, 1, 3), 1);
        due(4, "places", x.many(5), 8);
        x.time(1, 1, 1);
        x.hand(0, 0, 1);
        x.hand(1, 0, 1);
        for (int bad : FAR) {
            due(4, "a", x.tables(bad, 1, 1), NUMBER);
            due(4, "b", x.tables(1, bad, 1), NUMBER);
            due(4, "c", x.tables(1, 1, bad), NUMBER);
        }
        due(4, "nought", x.tables(1, 0, 1), NUMBER);
        due(4, "NUMBER is ahead of LARGE", x.tables(9, 9, 10), NUMBER);
        due(4, "a b", x.tables(2, 5, 1), LARGE);
        due(4, "b c", x.tables(1, 5, 2), LARGE);
        due(4, "a c", x.tables(5, 1, 2), LARGE);
        due(4, "as it was", x.run(0), 1);
        due(4, "as it was", x.many(4), 1);
        due(4, "tables", x.tables(1, 9, 1), 1);
        dueSizes(4, x, 9, 9, 1);
        due(4, "times", x.many(4), 0);
        due(4, "noughts in hand", x.run(0), 0);
        due(4, "tables", x.tables(3, 3, 3), 1);
        due(4, "places", x.many(5), 27);
    }

    private static void rows() {
        TimesBench x = new TimesBench();
        due(5, "rows", x.rows(3, 2, 0), 1);
        dueSizes(5, x, 3, 2, 4);
        due(5, "places", x.many(5), 6);
        due(5, "2 + 1", x.at(2, 1, 3), 1);
        due(5, "2 + 1", x.at(2, 1, 2), 0);
        due(5, "rows", x.rows(3, 3, 2), 1);
        dueSizes(5, x, 3, 3, 2);
        due(5, "2 + 1 modulo 2", x.at(2, 1, 1), 1);
        due(5, "2 + 2 modulo 2", x.at(2, 2, 0), 1);
        due(5, "2 + 2 modulo 2", x.at(2, 2, 1), 0);
        x.time(1, 1, 1);
        x.hand(0, 2, 1);
        x.hand(1, 1, 1);
        for (int bad : FAR) {
            due(5, "n", x.rows(bad, 1, 1), NUMBER);
            due(5, "m", x.rows(1, bad, 0), NUMBER);
            due(5, "w", x.rows(1, 1, bad), NUMBER);
        }
        due(5, "nought", x.rows(0, 1, 1), NUMBER);
        due(5, "NUMBER is ahead of LARGE", x.rows(9, 10, 0), NUMBER);
        due(5, "LARGE", x.rows(5, 6, 0), LARGE);
        due(5, "as it was", x.run(0), 2);
        due(5, "nine", x.rows(5, 5, 0), 1);
        dueSizes(5, x, 5, 5, 9);
        due(5, "times", x.many(4), 0);
        due(5, "noughts in hand", x.run(0), 0);
        due(5, "not large with w", x.rows(9, 9, 1), 1);
        due(5, "places", x.many(5), 81);
        due(5, "w beyond all sums", x.rows(2, 2, 9), 1);
        dueSizes(5, x, 2, 2, 9);
        due(5, "1 + 1", x.at(1, 1, 2), 1);
    }

    private static void setAndAt() {
        TimesBench x = onBox(5, 2, 3, 4);
        x.time(1, 1, 1);
        due(6, "set", x.set(1, 2, 3, 4), 0);
        due(6, "set again", x.set(1, 2, 3, 2), 4);
        due(7, "at", x.at(1, 2, 3), 2);
        due(6, "set to 0", x.set(1, 2, 3, 0), 2);
        due(7, "at", x.at(1, 2, 3), 0);
        due(6, "times stay", x.many(4), 1);
        x.set(0, 1, 2, 3);
        for (int bad : FAR) {
            due(6, "i", x.set(bad, 0, 0, 1), NUMBER);
            due(6, "j", x.set(0, bad, 0, 1), NUMBER);
            due(6, "k", x.set(0, 0, bad, 1), NUMBER);
            due(6, "v", x.set(0, 0, 0, bad), NUMBER);
            due(7, "i", x.at(bad, 0, 0), -1);
            due(7, "j", x.at(0, bad, 0), -1);
            due(7, "k", x.at(0, 0, bad), -1);
        }
        due(6, "i", x.set(2, 0, 0, 1), NUMBER);
        due(6, "j", x.set(0, 3, 0, 1), NUMBER);
        due(6, "k", x.set(0, 0, 4, 1), NUMBER);
        due(6, "v", x.set(0, 1, 2, 5), NUMBER);
        due(7, "i", x.at(2, 0, 0), -1);
        due(7, "j", x.at(0, 3, 0), -1);
        due(7, "k", x.at(0, 0, 4), -1);
        due(6, "as it was", x.at(0, 1, 2), 3);
        due(6, "as it was", x.many(5), 1);
    }

    private static void many() {
        TimesBench x = onBox(7, 2, 3, 4);
        x.set(0, 0, 0, 6);
        x.set(1, 1, 1, 1);
        x.time(8, 1, 1);
        x.time(24, 7, 7);
        x.time(0, 0, 0);
        x.time(0, 7, 2401 / 7);
        due(8, "P", x.many(0), 7);
        dueSizes(8, x, 2, 3, 4);
        due(8, "times", x.many(4), 4);
        due(8, "places", x.many(5), 2);
        // u: 24 is 3 times 8 modulo 7 (3, 3); noughts are alike to nothing; v: the second and the last.
        due(8, "moves", x.many(6), 4);
        due(8, "7", x.many(7), -1);
        for (int bad : FAR) {
            due(8, "another", x.many(bad), -1);
        }
    }

    private static void time() {
        TimesBench x = onBox(3, 1, 2, 3);
        due(9, "the greatest rows", x.time(2, 8, 26), 0);
        due(9, "noughts", x.time(0, 0, 0), 1);
        dueTime(9, x, 0, 2, 8, 26);
        dueTime(9, x, 1, 0, 0, 0);
        due(9, "u", x.time(3, 0, 0), NUMBER);
        due(9, "v", x.time(0, 9, 0), NUMBER);
        due(9, "w", x.time(0, 0, 27), NUMBER);
        for (int bad : new int[] {Integer.MIN_VALUE, -1, 100, Integer.MAX_VALUE}) {
            due(9, "u", x.time(bad, 0, 0), NUMBER);
            due(9, "v", x.time(0, bad, 0), NUMBER);
            due(9, "w", x.time(0, 0, bad), NUMBER);
        }
        due(9, "none has come", x.many(4), 2);
        for (int t = 2; t < 40; t++) {
            due(9, "time", x.time(1, t % 9, t % 27), t);
        }
        due(9, "the 41st", x.time(1, 1, 1), FULL);
        due(9, "NUMBER is ahead of FULL", x.time(3, 1, 1), NUMBER);
        due(9, "times", x.many(4), 40);
        dueTime(9, x, 39, 1, 3, 12);
        TimesBench wide = onBox(7, 9, 9, 9);
        due(9, "the greatest of all", wide.time(40353606, 40353606, 40353606), 0);
        dueTime(9, wide, 0, 40353606, 40353606, 40353606);
        due(9, "one above", wide.time(40353607, 0, 0), NUMBER);
    }

    private static void rowChangeDrop() {
        TimesBench x = onBox(5, 1, 2, 3);
        due(10, "no time", x.row(0, 0), -1);
        due(12, "no time", x.drop(0), NUMBER);
        x.time(1, 2, 3);
        x.time(2, 24, 124);
        x.time(3, 4, 5);
        due(11, "u", x.change(1, 0, 4), 1);
        due(11, "v", x.change(1, 1, 0), 1);
        due(11, "w", x.change(1, 2, 77), 1);
        dueTime(10, x, 1, 4, 0, 77);
        dueTime(10, x, 2, 3, 4, 5);
        for (int bad : FAR) {
            due(10, "t", x.row(bad, 0), -1);
            due(10, "which", x.row(0, bad), -1);
            due(11, "t", x.change(bad, 0, 0), NUMBER);
            due(11, "which", x.change(0, bad, 0), NUMBER);
            due(11, "row", x.change(0, 0, bad), NUMBER);
            due(12, "t", x.drop(bad), NUMBER);
        }
        due(10, "t", x.row(3, 0), -1);
        due(10, "which", x.row(0, 3), -1);
        due(11, "which", x.change(0, 3, 0), NUMBER);
        due(11, "t", x.change(3, 0, 0), NUMBER);
        due(11, "u", x.change(0, 0, 5), NUMBER);
        due(11, "v", x.change(0, 1, 25), NUMBER);
        due(11, "w", x.change(0, 2, 125), NUMBER);
        due(12, "t", x.drop(3), NUMBER);
        dueTime(11, x, 0, 1, 2, 3);
        due(12, "drop", x.drop(1), 2);
        dueTime(12, x, 0, 1, 2, 3);
        dueTime(12, x, 1, 3, 4, 5);
        due(12, "none behind", x.row(2, 0), -1);
        due(12, "the last", x.drop(1), 1);
        due(12, "the only", x.drop(0), 0);
    }

    private static void plain() {
        TimesBench x = onBox(3, 2, 2, 3);
        x.set(1, 0, 2, 2);
        x.set(0, 1, 1, 1);
        x.set(0, 1, 0, 2);
        x.time(1, 1, 1);
        due(13, "plain", x.plain(), 3);
        dueTime(13, x, 0, 1, 3, 2);
        dueTime(13, x, 1, 1, 3, 3);
        dueTime(13, x, 2, 3, 1, 18);
        due(13, "makes", x.makes(), true);
        TimesBench y = onBox(7, 9, 9, 1);
        for (int n = 0; n < 40; n++) {
            y.set(n / 9, n % 9, 0, 1 + n % 6);
        }
        due(13, "40", y.plain(), 40);
        due(13, "makes", y.makes(), true);
        y.drop(0);
        y.set(8, 8, 0, 1);
        due(13, "41", y.plain(), FULL);
        due(13, "as it was", y.many(4), 39);
        due(13, "nothing in the box", onBox(2, 9, 9, 9).plain(), 0);
    }

    private static void makesAndOff() {
        TimesBench x = strassen();
        due(14, "seven times", x.makes(), true);
        due(15, "none", x.off(0), -1);
        x.set(3, 2, 1, 1);
        due(14, "another box", x.makes(), false);
        due(15, "the place", x.off(0), 321);
        due(15, "no other", x.off(1), -1);
        x.set(3, 2, 1, 0);
        x.drop(6);
        // The last one adds 1 where i is 1 or 3, j is 2 or 3, k is 0.
        due(15, "0", x.off(0), 120);
        due(15, "1", x.off(1), 130);
        due(15, "2", x.off(2), 320);
        due(15, "3", x.off(3), 330);
        due(15, "4", x.off(4), -1);
        for (int bad : FAR) {
            due(15, "none", x.off(bad), -1);
        }
        TimesBench y = onBox(3, 1, 1, 3);
        y.set(0, 0, 0, 1);
        y.set(0, 0, 1, 2);
        y.time(2, 2, 1);
        y.time(1, 2, 3);
        due(14, "over 3", y.makes(), true);
        y.time(1, 1, 18);
        due(15, "over 3", y.off(0), 2);
        y.time(1, 1, 9);
        due(14, "over 3", y.makes(), true);
    }

    private static void less() {
        TimesBench x = onBox(3, 2, 2, 2);
        due(16, "no times", x.less(), 0);
        x.time(0, 1, 1);
        x.time(1, 0, 1);
        x.time(1, 3, 1);
        x.time(1, 1, 0);
        due(16, "noughts go", x.less(), 3);
        dueTime(16, x, 0, 1, 3, 1);
        // u by 2, v by 2: w is 1 and once 3.
        x.time(2, 6, 3);
        due(16, "u and v", x.less(), 1);
        dueTime(16, x, 0, 1, 3, 4);
        // u by 2, w by 1: v is 3 and twice 1.
        x.time(2, 1, 4);
        due(16, "u and w", x.less(), 1);
        dueTime(16, x, 0, 1, 5, 4);
        // v by 2, w by 2: u is 1 and once 6.
        x.time(6, 7, 8);
        due(16, "v and w", x.less(), 1);
        dueTime(16, x, 0, 7, 5, 4);
        // All three are alike: w is what is added to, and 4 and twice 4 are noughts, which go too.
        x.time(7, 5, 8);
        due(16, "all alike", x.less(), 2);
        due(16, "nothing is left", x.many(4), 0);
        x.time(1, 1, 1);
        x.time(1, 3, 3);
        due(16, "one alike alone", x.less(), 0);
    }

    private static void lessByOrder() {
        TimesBench x = onBox(2, 2, 2, 2);
        x.time(1, 1, 1);
        x.time(1, 1, 2);
        x.time(2, 1, 1);
        due(16, "the first two", x.less(), 1);
        dueTime(16, x, 0, 1, 1, 3);
        dueTime(16, x, 1, 2, 1, 1);
        x.box(2, 2, 2);
        x.time(2, 2, 1);
        x.time(1, 1, 1);
        x.time(1, 1, 2);
        x.time(2, 2, 2);
        due(16, "by s, then by t", x.less(), 2);
        dueTime(16, x, 0, 2, 2, 3);
        dueTime(16, x, 1, 1, 1, 3);
        x.box(2, 2, 2);
        x.time(1, 1, 1);
        x.time(1, 2, 1);
        x.time(0, 3, 1);
        x.time(3, 3, 1);
        due(16, "(b) makes (b) possible", x.less(), 3);
        dueTime(16, x, 0, 2, 3, 1);
    }

    private static void move() {
        TimesBench x = onBox(5, 2, 2, 2);
        x.time(11, 1, 5);
        x.time(8, 7, 6);
        due(17, "by 3", x.move(0, 0, 1), 1);
        dueTime(17, x, 0, 11, 17, 5);
        dueTime(17, x, 1, 11, 16, 1);
        TimesBench y = onBox(3, 2, 2, 2);
        y.time(1, 1, 1);
        y.time(3, 3, 2);
        due(17, "u isn't alike", y.move(0, 0, 1), STATE);
        due(17, "v isn't alike", y.move(1, 0, 1), STATE);
        due(17, "w", y.move(2, 0, 1), 1);
        dueTime(17, y, 0, 7, 1, 1);
        dueTime(17, y, 1, 6, 5, 1);
        y.box(2, 2, 2);
        y.time(3, 2, 3);
        y.time(1, 1, 1);
        due(17, "v, the later one first", y.move(1, 1, 0), 1);
        dueTime(17, y, 1, 1, 1, 7);
        dueTime(17, y, 0, 5, 1, 6);
        y.change(0, 0, 0);
        y.change(1, 0, 0);
        due(17, "noughts aren't alike", y.move(0, 0, 1), STATE);
        for (int bad : FAR) {
            due(17, "which", y.move(bad, 0, 1), NUMBER);
            due(17, "s", y.move(1, bad, 1), NUMBER);
            due(17, "t", y.move(1, 0, bad), NUMBER);
        }
        due(17, "which", y.move(3, 0, 1), NUMBER);
        due(17, "s", y.move(1, 2, 1), NUMBER);
        due(17, "t", y.move(1, 0, 2), NUMBER);
        due(17, "s is t", y.move(1, 1, 1), NUMBER);
        dueTime(17, y, 0, 0, 1, 6);
        TimesBench z = strassen();
        z.time(9, 1, 1);
        z.time(9, 1, 1);
        due(17, "move", z.move(0, 0, 7), 1);
        due(17, "what is made stays", z.makes(), true);
    }

    private static void walk() {
        TimesBench x = onBox(2, 2, 2, 2);
        due(18, "no times", x.walk(1, 200), 0);
        x.time(1, 1, 1);
        x.time(1, 2, 2);
        due(18, "no step", x.walk(0, 0), 2);
        dueTime(18, x, 0, 1, 1, 1);
        // 12345: its highest bits are 0, the first move is 0, 0, 1.
        due(18, "a step", x.walk(0, 1), 2);
        dueTime(18, x, 0, 1, 3, 1);
        dueTime(18, x, 1, 1, 2, 3);
        x.box(2, 2, 2);
        x.time(1, 1, 1);
        x.time(1, 2, 2);
        // -1103502900: its highest bits are 48697, the second move is 0, 1, 0.
        due(18, "bits without sign", x.walk(-1, 1), 2);
        dueTime(18, x, 0, 1, 1, 3);
        dueTime(18, x, 1, 1, 3, 2);
        x.box(2, 2, 2);
        x.time(1, 1, 1);
        x.time(1, 1, 1);
        for (int bad : new int[] {Integer.MIN_VALUE, -1, 201, Integer.MAX_VALUE}) {
            due(18, "n", x.walk(0, bad), NUMBER);
        }
        due(18, "no step lessens nothing", x.walk(0, 0), 2);
        due(18, "lessened behind the step", x.walk(0, 1), 0);
        TimesBench y = new TimesBench();
        y.tables(2, 2, 2);
        y.plain();
        for (int seed = 0; seed < 20; seed++) {
            int times = y.walk(seed, 200);
            due(18, "how many", times, y.many(4));
            due(18, "what is made stays", y.makes(), true);
        }
    }

    private static void around() {
        TimesBench x = onBox(7, 2, 3, 4);
        x.set(1, 2, 3, 5);
        x.set(0, 2, 1, 4);
        x.time(8, 50, 345);
        x.hand(0, 0, 1);
        x.hand(1, 2, 1);
        due(19, "around", x.around(), 1);
        dueSizes(19, x, 3, 4, 2);
        due(19, "at", x.at(2, 3, 1), 5);
        due(19, "at", x.at(2, 1, 0), 4);
        due(19, "places", x.many(5), 2);
        dueTime(19, x, 0, 50, 345, 8);
        due(19, "noughts in hand", x.run(0), 0);
        x.hand(0, 2, 1);
        due(19, "y is noughts", x.run(0), 0);
        x.hand(1, 1, 1);
        due(19, "run", x.run(0), 4);
        x.around();
        x.around();
        dueSizes(19, x, 2, 3, 4);
        due(19, "thrice", x.at(1, 2, 3), 5);
        dueTime(19, x, 0, 8, 50, 345);
        TimesBench y = strassen();
        y.around();
        due(19, "what is made stays", y.makes(), true);
    }

    private static void turn() {
        TimesBench x = onBox(5, 2, 2, 2);
        x.set(1, 0, 1, 3);
        x.time(21, 21, 21);
        x.hand(0, 1, 1);
        x.hand(1, 0, 1);
        due(20, "i", x.turn(0, 0, 1, 2), 1);
        due(20, "at", x.at(0, 0, 1), 1);
        due(20, "at", x.at(1, 0, 1), 3);
        dueTime(20, x, 0, 24, 21, 21);
        due(20, "what is in hand stays", x.run(0), 15);
        due(20, "j", x.turn(1, 1, 0, 4), 1);
        due(20, "at", x.at(0, 1, 1), 4);
        due(20, "at", x.at(1, 1, 1), 2);
        dueTime(20, x, 0, 24, 16, 21);
        due(20, "k", x.turn(2, 0, 1, 3), 1);
        due(20, "at", x.at(1, 0, 0), 4);
        due(20, "at", x.at(0, 0, 0), 3);
        dueTime(20, x, 0, 24, 16, 20 + 3);
        int places = x.many(5);
        due(20, "by 0", x.turn(0, 0, 1, 0), 1);
        due(20, "by 0", x.many(5), places);
        for (int bad : FAR) {
            due(20, "which", x.turn(bad, 0, 1, 1), NUMBER);
            due(20, "a", x.turn(0, bad, 1, 1), NUMBER);
            due(20, "b", x.turn(0, 0, bad, 1), NUMBER);
            due(20, "f", x.turn(0, 0, 1, bad), NUMBER);
        }
        due(20, "which", x.turn(3, 0, 1, 1), NUMBER);
        due(20, "a", x.turn(0, 2, 1, 1), NUMBER);
        due(20, "b", x.turn(0, 0, 2, 1), NUMBER);
        due(20, "the same", x.turn(0, 1, 1, 1), NUMBER);
        due(20, "f", x.turn(0, 0, 1, 5), NUMBER);
        dueTime(20, x, 0, 24, 16, 23);
        TimesBench y = strassen();
        for (int which = 0; which < 3; which++) {
            y.turn(which, 2, 3, 1);
            due(20, "what is made stays", y.makes(), true);
        }
        due(20, "the box is another one", y.many(5) != 8, true);
    }

    private static void rank() {
        TimesBench x = onBox(3, 1, 2, 3);
        due(21, "noughts", x.rank(3), 0);
        x.set(0, 0, 0, 1);
        x.set(0, 1, 2, 2);
        due(21, "i", x.rank(0), 1);
        due(21, "j", x.rank(1), 2);
        due(21, "k", x.rank(2), 2);
        due(21, "bound", x.rank(3), 2);
        x.around();
        due(21, "i", x.rank(0), 2);
        due(21, "k", x.rank(2), 1);
        due(21, "bound", x.rank(3), 2);
        x.box(2, 2, 1);
        x.set(0, 0, 0, 1);
        x.set(0, 1, 0, 2);
        x.set(1, 0, 0, 2);
        x.set(1, 1, 0, 1);
        due(21, "1 2, 2 1 over 3", x.rank(3), 1);
        TimesBench y = onBox(5, 2, 2, 1);
        y.set(0, 0, 0, 1);
        y.set(0, 1, 0, 2);
        y.set(1, 0, 0, 2);
        y.set(1, 1, 0, 1);
        due(21, "1 2, 2 1 over 5", y.rank(3), 2);
        for (int bad : FAR) {
            due(21, "another", y.rank(bad), NUMBER);
        }
        due(21, "4", y.rank(4), NUMBER);
        y.tables(3, 3, 3);
        due(21, "tables", y.rank(0), 9);
        y.rows(5, 5, 0);
        due(21, "rows", y.rank(0), 5);
        due(21, "rows", y.rank(2), 9);
    }

    private static void least() {
        TimesBench x = onBox(2, 3, 3, 9);
        due(22, "noughts", x.least(), 0);
        x.set(2, 2, 8, 1);
        due(22, "one", x.least(), 1);
        x.rows(2, 2, 0);
        fillTimes(x, 5);
        due(22, "rows", x.least(), 3);
        due(22, "the scheme stays", x.many(4), 5);
        x.rows(2, 2, 2);
        due(22, "rows modulo 2, over 2", x.least(), 3);
        x.tables(1, 2, 2);
        due(22, "tables", x.least(), 4);
        x.tables(2, 1, 2);
        due(22, "tables", x.least(), 4);
        x.rows(3, 3, 0);
        due(22, "rows of 3", x.least(), ABOVE);
        x.rows(3, 2, 0);
        due(22, "rows of 3 and 2 over 2", x.least(), ABOVE);
        TimesBench y = on(3);
        y.rows(2, 2, 2);
        due(22, "rows modulo 2, over 3", y.least(), 2);
        y.rows(3, 2, 0);
        due(22, "rows of 3 and 2 over 3", y.least(), 4);
        y.box(1, 4, 5);
        for (int j = 0; j < 4; j++) {
            y.set(0, j, j, 2);
        }
        due(22, "four", y.least(), 4);
    }

    private static void leastIsLarge() {
        int[][] small = {{2, 3, 3}, {2, 2, 4}, {2, 5, 1}, {3, 2, 3}, {3, 4, 1}, {5, 2, 2}, {5, 3, 1}, {7, 1, 3}};
        for (int[] one : small) {
            TimesBench x = onBox(one[0], one[1], one[2], 9);
            due(22, "not large", x.least(), 0);
            due(23, "not large", x.find(), 0);
        }
        int[][] large = {{2, 3, 4}, {2, 6, 1}, {2, 1, 9}, {3, 3, 3}, {3, 2, 4}, {3, 1, 5}, {5, 2, 3}, {5, 1, 4},
            {7, 2, 2}, {7, 4, 1}, {7, 9, 9}};
        for (int[] one : large) {
            TimesBench x = onBox(one[0], one[1], one[2], 1);
            due(22, "large", x.least(), LARGE);
            due(23, "large", x.find(), LARGE);
        }
    }

    private static void find() {
        TimesBench x = new TimesBench();
        x.rows(2, 2, 0);
        fillTimes(x, 40);
        x.hand(0, 1, 1);
        x.hand(1, 1, 1);
        due(23, "rows", x.find(), 3);
        dueTime(23, x, 0, 1, 1, 3);
        dueTime(23, x, 1, 2, 2, 6);
        dueTime(23, x, 2, 3, 3, 2);
        due(23, "makes", x.makes(), true);
        due(23, "what is in hand stays", x.run(1), 4);
        x.box(2, 2, 1);
        x.set(0, 1, 0, 1);
        x.set(1, 0, 0, 1);
        due(23, "crosswise", x.find(), 2);
        dueTime(23, x, 0, 1, 2, 1);
        dueTime(23, x, 1, 2, 1, 1);
        x.set(0, 0, 0, 1);
        due(23, "three of four", x.find(), 2);
        dueTime(23, x, 0, 1, 2, 1);
        dueTime(23, x, 1, 3, 1, 1);
        TimesBench y = onBox(5, 1, 2, 2);
        y.set(0, 0, 0, 3);
        y.set(0, 1, 0, 4);
        y.set(0, 0, 1, 1);
        y.set(0, 1, 1, 3);
        // 3 4 is 3 times 1 3.
        due(23, "one", y.find(), 1);
        dueTime(23, y, 0, 1, 16, 8);
        y.set(0, 1, 1, 0);
        due(23, "two", y.find(), 2);
        dueTime(23, y, 0, 1, 1, 8);
        dueTime(23, y, 1, 1, 5, 4);
    }

    private static void findRefused() {
        TimesBench x = new TimesBench();
        x.rows(3, 3, 0);
        x.time(1, 2, 3);
        due(23, "above", x.find(), ABOVE);
        dueTime(23, x, 0, 1, 2, 3);
        x.tables(2, 2, 2);
        x.time(1, 2, 3);
        due(23, "large", x.find(), LARGE);
        dueTime(23, x, 0, 1, 2, 3);
        x.box(2, 2, 2);
        x.time(1, 2, 3);
        due(23, "noughts", x.find(), 0);
        due(23, "no times", x.many(4), 0);
    }

    private static void handAndRun() {
        TimesBench x = on(5);
        x.rows(2, 2, 0);
        x.plain();
        due(24, "x", x.hand(0, 0, 2), 1);
        due(24, "x", x.hand(0, 1, 4), 1);
        due(24, "x again", x.hand(0, 1, 3), 1);
        due(24, "y", x.hand(1, 0, 4), 1);
        due(24, "y", x.hand(1, 1, 1), 1);
        for (int bad : FAR) {
            due(24, "which", x.hand(bad, 0, 1), NUMBER);
            due(24, "i", x.hand(0, bad, 1), NUMBER);
            due(24, "v", x.hand(1, 0, bad), NUMBER);
            due(25, "how", x.run(bad), NUMBER);
        }
        due(24, "which", x.hand(2, 0, 1), NUMBER);
        due(24, "i", x.hand(0, 2, 1), NUMBER);
        due(24, "i", x.hand(1, 2, 1), NUMBER);
        due(24, "v", x.hand(1, 0, 5), NUMBER);
        due(25, "how", x.run(2), NUMBER);
        // (2 + 3 t) (4 + t) = 8 + 14 t + 3 t t.
        due(25, "by the box", x.run(0), 3 + 4 * 5 + 3 * 25);
        due(25, "by the scheme", x.run(1), 3 + 4 * 5 + 3 * 25);
        x.drop(3);
        due(25, "by a part of the scheme", x.run(1), 3 + 4 * 5);
        due(25, "the box is whole", x.run(0), 3 + 4 * 5 + 3 * 25);
        x.change(0, 0, 6);
        // (x0 + x1) y0 = 0 now.
        due(25, "by another scheme", x.run(1), 4 * 5);
        TimesBench wide = onBox(7, 9, 9, 9);
        wide.set(8, 8, 8, 6);
        wide.time(5764801, 5764801, 40353606);
        due(24, "the last", wide.hand(0, 8, 6), 1);
        due(24, "the last", wide.hand(1, 8, 1), 1);
        due(25, "by the box", wide.run(0), 5764801);
        due(25, "by the scheme", wide.run(1), 6725601);
        due(24, "one behind", wide.hand(0, 9, 1), NUMBER);
    }

    private static void sums() {
        TimesBench x = strassen();
        due(26, "u plain", x.sums(0, 0), 5);
        due(26, "v plain", x.sums(1, 0), 5);
        due(26, "u shared", x.sums(0, 1), 5);
        x.box(4, 5, 1);
        due(26, "no times", x.sums(0, 1), 0);
        x.time(7, 0, 1);
        x.time(7, 0, 1);
        x.time(3, 31, 1);
        due(26, "plain", x.sums(0, 0), 5);
        due(26, "plain, with noughts", x.sums(1, 0), 4);
        due(26, "0 and 1 in all three, then 2 and that in two", x.sums(0, 1), 2);
        due(26, "one row shares nothing", x.sums(1, 1), 4);
        dueTime(26, x, 0, 7, 0, 1);
        TimesBench y = onBox(3, 2, 2, 1);
        y.time(4, 1, 1);
        y.time(8, 1, 1);
        y.time(7, 1, 1);
        due(26, "plain", y.sums(0, 0), 3);
        due(26, "two by 1, one by 2", y.sums(0, 1), 2);
        y.change(2, 0, 5);
        due(26, "two by 1, the other by 2", y.sums(0, 1), 2);
        y.change(1, 0, 7);
        due(26, "one by 1, two by 2", y.sums(0, 1), 2);
        y.change(0, 0, 8);
        y.change(1, 0, 4);
        y.change(2, 0, 4);
        due(26, "three by 1", y.sums(0, 1), 1);
        for (int bad : FAR) {
            due(26, "which", y.sums(bad, 0), NUMBER);
            due(26, "how", y.sums(0, bad), NUMBER);
        }
        due(26, "which", y.sums(2, 0), NUMBER);
        due(26, "how", y.sums(0, 2), NUMBER);
    }

    private static void keepAndBack() {
        TimesBench x = onBox(3, 2, 1, 3);
        x.set(1, 0, 2, 2);
        x.time(5, 2, 26);
        for (int bad : FAR) {
            due(27, "place", x.keep(bad), NUMBER);
            due(28, "place", x.back(bad), NUMBER);
        }
        due(27, "place", x.keep(4), NUMBER);
        due(28, "place", x.back(4), NUMBER);
        due(27, "keep", x.keep(0), 1);
        due(28, "the others are empty", x.back(1), STATE);
        x.set(1, 0, 2, 1);
        x.change(0, 0, 1);
        x.time(1, 1, 1);
        due(27, "keep", x.keep(3), 1);
        x.box(9, 9, 9);
        due(28, "back", x.back(0), 1);
        dueSizes(28, x, 2, 1, 3);
        due(28, "at", x.at(1, 0, 2), 2);
        due(28, "times", x.many(4), 1);
        dueTime(28, x, 0, 5, 2, 26);
        x.set(0, 0, 0, 1);
        x.drop(0);
        due(28, "what is kept stays", x.back(0), 1);
        due(28, "at", x.at(0, 0, 0), 0);
        dueTime(28, x, 0, 5, 2, 26);
        x.hand(0, 1, 1);
        x.hand(1, 0, 1);
        due(28, "in hand", x.run(0), 18);
        due(28, "refused", x.back(2), STATE);
        due(28, "in hand still", x.run(0), 18);
        due(27, "keep leaves what is in hand", x.keep(1), 1);
        due(28, "in hand still", x.run(0), 18);
        due(28, "back", x.back(3), 1);
        due(28, "noughts in hand", x.run(0), 0);
        due(28, "times", x.many(4), 2);
        due(28, "at", x.at(1, 0, 2), 1);
        due(27, "keep over another", x.keep(0), 1);
        x.box(1, 1, 1);
        x.back(0);
        due(27, "times", x.many(4), 2);
    }

    private static void beside() {
        TimesBench x = onBox(3, 1, 1, 1);
        x.set(0, 0, 0, 2);
        x.time(1, 1, 2);
        x.keep(0);
        x.box(2, 1, 1);
        x.set(1, 0, 0, 1);
        x.time(3, 1, 1);
        x.hand(0, 1, 1);
        x.hand(1, 0, 1);
        due(29, "beside", x.beside(0), 2);
        dueSizes(29, x, 3, 2, 2);
        dueTime(29, x, 0, 3, 1, 1);
        dueTime(29, x, 1, 9, 3, 6);
        due(29, "its own", x.at(1, 0, 0), 1);
        due(29, "the other's", x.at(2, 1, 1), 2);
        due(29, "no more", x.many(5), 2);
        due(29, "makes", x.makes(), true);
        due(29, "noughts in hand", x.run(0), 0);
        due(29, "again", x.beside(0), 3);
        dueSizes(29, x, 4, 3, 3);
        dueTime(29, x, 2, 27, 9, 18);
        due(29, "what is kept stays", x.back(0), 1);
        dueTime(29, x, 0, 1, 1, 2);
        TimesBench y = strassen();
        y.keep(3);
        due(29, "with itself", y.beside(3), 14);
        dueSizes(29, y, 8, 8, 8);
        due(29, "makes", y.makes(), true);
    }

    private static void besideRefused() {
        TimesBench x = onBox(2, 4, 4, 4);
        fillTimes(x, 20);
        x.keep(1);
        for (int bad : FAR) {
            due(29, "place", x.beside(bad), NUMBER);
        }
        due(29, "place", x.beside(4), NUMBER);
        due(29, "nothing there", x.beside(0), STATE);
        for (int way = 0; way < 3; way++) {
            x.box(way == 0 ? 6 : 5, way == 1 ? 6 : 5, way == 2 ? 6 : 5);
            fillTimes(x, 21);
            due(29, "LARGE, ahead of FULL", x.beside(1), LARGE);
        }
        x.box(5, 5, 5);
        fillTimes(x, 21);
        x.set(0, 0, 0, 1);
        x.hand(0, 0, 1);
        x.hand(1, 0, 1);
        due(29, "41", x.beside(1), FULL);
        dueSizes(29, x, 5, 5, 5);
        due(29, "in hand still", x.run(0), 1);
        x.drop(0);
        due(29, "40", x.beside(1), 40);
        dueSizes(29, x, 9, 9, 9);
        dueTime(29, x, 39, 32, 32, 32);
    }

    private static void within() {
        TimesBench x = onBox(5, 2, 1, 1);
        x.set(1, 0, 0, 2);
        x.time(5, 1, 2);
        x.time(1, 1, 3);
        x.keep(2);
        x.box(1, 2, 2);
        x.set(0, 1, 1, 3);
        x.time(1, 5, 15);
        x.time(2, 6, 1);
        x.hand(0, 0, 1);
        x.hand(1, 1, 1);
        due(30, "within", x.within(2), 4);
        dueSizes(30, x, 2, 2, 2);
        due(30, "at", x.at(1, 1, 1), 1);
        due(30, "no more", x.many(5), 1);
        dueTime(30, x, 0, 5, 5, 5);
        dueTime(30, x, 1, 1, 5, 20);
        dueTime(30, x, 2, 10, 6, 2);
        dueTime(30, x, 3, 2, 6, 3);
        due(30, "noughts in hand", x.run(0), 0);
        due(30, "what is kept stays", x.back(2), 1);
        dueTime(30, x, 0, 5, 1, 2);
        x.box(2, 3, 1);
        x.set(1, 2, 0, 4);
        x.time(5, 25, 4);
        due(30, "index i times p's size and i' more", x.within(2), 2);
        dueSizes(30, x, 4, 3, 1);
        due(30, "at", x.at(3, 2, 0), 3);
        dueTime(30, x, 0, 125, 25, 3);
        TimesBench y = new TimesBench();
        y.rows(2, 2, 0);
        y.find();
        y.keep(0);
        due(30, "rows within rows", y.within(0), 9);
        dueSizes(30, y, 4, 4, 9);
        due(30, "makes", y.makes(), true);
    }

    private static void withinRefused() {
        TimesBench x = onBox(2, 3, 3, 3);
        fillTimes(x, 5);
        x.keep(0);
        for (int bad : FAR) {
            due(30, "place", x.within(bad), NUMBER);
        }
        due(30, "place", x.within(4), NUMBER);
        due(30, "nothing there", x.within(1), STATE);
        for (int way = 0; way < 3; way++) {
            x.box(way == 0 ? 4 : 3, way == 1 ? 4 : 3, way == 2 ? 4 : 3);
            fillTimes(x, 9);
            due(30, "LARGE, ahead of FULL", x.within(0), LARGE);
        }
        x.box(3, 3, 3);
        fillTimes(x, 9);
        x.set(0, 0, 0, 1);
        x.hand(0, 0, 1);
        x.hand(1, 0, 1);
        due(30, "45", x.within(0), FULL);
        due(30, "as it was", x.many(4), 9);
        due(30, "in hand still", x.run(0), 1);
        x.drop(0);
        due(30, "40", x.within(0), 40);
        dueSizes(30, x, 9, 9, 9);
        x.box(1, 1, 1);
        due(30, "no times of its own", x.within(0), 0);
    }
}
