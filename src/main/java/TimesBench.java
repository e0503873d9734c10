import java.util.Arrays;

/**
 * A bench for sums of products done with few multiplications.
 *
 * A row of numbers is held the way it is told: as one int, number i times P to the power of i.
 * A box is held as such a row of C numbers for each i and j.
 */
public final class TimesBench {
    public static final int NUMBER = -1;
    public static final int FULL = -2;
    public static final int LARGE = -3;
    public static final int STATE = -4;
    public static final int ABOVE = -5;

    private static final int NONE = -1;
    private static final int DONE = 1;
    private static final int MAX_GROUND = 7;
    private static final int MAX_SIZE = 9;
    private static final int MAX_TIMES = 40;
    private static final int MAX_STEPS = 200;
    private static final int MAX_PAIRS = 60;
    private static final int MAX_LEAST = 4;
    private static final int MAX_SHARED = 40;
    private static final int MAX_COLUMNS = MAX_SIZE + MAX_SHARED;
    private static final int PLACES = 4;
    private static final int U = 0;
    private static final int V = 1;
    private static final int W = 2;
    private static final int WAYS = 3;

    private final Ground ground;
    private final Piece[] kept;
    private final boolean[] isKept;
    private final int[] inHand;
    private final Mover mover;
    private final Joiner joiner;
    private final Runner runner;
    private final Basis columns;
    private final Seeker seeker;
    private final Sharer sharer;
    private Piece piece;
    private Piece spare;

    public TimesBench() {
        ground = new Ground();
        piece = new Piece(ground);
        spare = new Piece(ground);
        kept = new Piece[PLACES];
        for (int p = 0; p < PLACES; p++) {
            kept[p] = new Piece(ground);
        }
        isKept = new boolean[PLACES];
        inHand = new int[2];
        mover = new Mover(ground);
        joiner = new Joiner(ground);
        runner = new Runner(ground);
        columns = new Basis(ground);
        seeker = new Seeker(ground);
        sharer = new Sharer(ground);
    }

    // ---- the box

    public int ground(int p) {
        if (!Ground.canBe(p)) {
            return NUMBER;
        }
        ground.become(p);
        for (int place = 0; place < PLACES; place++) {
            isKept[place] = false;
        }
        startBox(1, 1, 1);
        return DONE;
    }

    public int box(int a, int b, int c) {
        if (!isSize(a) || !isSize(b) || !isSize(c)) {
            return NUMBER;
        }
        startBox(a, b, c);
        return DONE;
    }

    public int tables(int a, int b, int c) {
        if (!isSize(a) || !isSize(b) || !isSize(c)) {
            return NUMBER;
        }
        if (a * b > MAX_SIZE || b * c > MAX_SIZE || a * c > MAX_SIZE) {
            return LARGE;
        }
        startBox(a * b, b * c, a * c);
        for (int r = 0; r < a; r++) {
            for (int s = 0; s < b; s++) {
                for (int q = 0; q < c; q++) {
                    piece.setNumber(b * r + s, c * s + q, c * r + q, 1);
                }
            }
        }
        return DONE;
    }

    public int rows(int n, int m, int w) {
        if (!isSize(n) || !isSize(m) || w < 0 || w > MAX_SIZE) {
            return NUMBER;
        }
        int size = w == 0 ? n + m - 1 : w;
        if (size > MAX_SIZE) {
            return LARGE;
        }
        startBox(n, m, size);
        for (int i = 0; i < n; i++) {
            for (int j = 0; j < m; j++) {
                // Without w no sum reaches the size, so that the remainder is the sum itself.
                piece.setNumber(i, j, (i + j) % size, 1);
            }
        }
        return DONE;
    }

    public int set(int i, int j, int k, int v) {
        if (!piece.hasPlace(i, j, k) || !ground.isNumber(v)) {
            return NUMBER;
        }
        int before = piece.number(i, j, k);
        piece.setNumber(i, j, k, v);
        return before;
    }

    public int at(int i, int j, int k) {
        return piece.hasPlace(i, j, k) ? piece.number(i, j, k) : NONE;
    }

    public int many(int what) {
        switch (what) {
            case 0:
                return ground.p;
            case 1:
            case 2:
            case 3:
                return piece.size[what - 1];
            case 4:
                return piece.times;
            case 5:
                return piece.filledPlaces();
            case 6:
                return mover.countMoves(piece);
            default:
                return NONE;
        }
    }

    // ---- schemes

    public int time(int u, int v, int w) {
        if (!piece.fits(U, u) || !piece.fits(V, v) || !piece.fits(W, w)) {
            return NUMBER;
        }
        if (piece.times >= MAX_TIMES) {
            return FULL;
        }
        piece.append(u, v, w);
        return piece.times - 1;
    }

    public int row(int t, int which) {
        return piece.hasTime(t) && isWay(which) ? piece.rowOf(which, t) : NONE;
    }

    public int change(int t, int which, int row) {
        if (!piece.hasTime(t) || !isWay(which) || !piece.fits(which, row)) {
            return NUMBER;
        }
        piece.put(which, t, row);
        return DONE;
    }

    public int drop(int t) {
        if (!piece.hasTime(t)) {
            return NUMBER;
        }
        piece.remove(t);
        return piece.times;
    }

    public int plain() {
        if (piece.filledPlaces() > MAX_TIMES) {
            return FULL;
        }
        piece.becomePlain();
        return piece.times;
    }

    public boolean makes() {
        return runner.wrongPlace(piece, 0) == NONE;
    }

    public int off(int n) {
        return n < 0 ? NONE : runner.wrongPlace(piece, n);
    }

    public int less() {
        return mover.lessen(piece);
    }

    public int move(int which, int s, int t) {
        if (!isWay(which) || !piece.hasTime(s) || !piece.hasTime(t) || s == t) {
            return NUMBER;
        }
        if (!piece.alike(which, s, t)) {
            return STATE;
        }
        mover.doMove(piece, which, s, t);
        return DONE;
    }

    public int walk(int seed, int n) {
        if (n < 0 || n > MAX_STEPS) {
            return NUMBER;
        }
        int x = seed;
        for (int step = 0; step < n; step++) {
            int moves = mover.countMoves(piece);
            if (moves == 0) {
                break;
            }
            x = 1103515245 * x + 12345;
            mover.doNumbered(piece, (x >>> 16) % moves);
            mover.lessen(piece);
        }
        return piece.times;
    }

    public int around() {
        joiner.turnRound(piece, spare);
        takeSpare();
        return DONE;
    }

    public int turn(int which, int a, int b, int f) {
        if (!isWay(which) || !piece.hasIndex(which, a) || !piece.hasIndex(which, b)) {
            return NUMBER;
        }
        if (a == b || !ground.isNumber(f)) {
            return NUMBER;
        }
        piece.addIndex(which, a, b, f);
        return DONE;
    }

    // ---- bounds

    public int rank(int which) {
        if (which == WAYS) {
            return Math.max(rankBy(U), Math.max(rankBy(V), rankBy(W)));
        }
        return isWay(which) ? rankBy(which) : NUMBER;
    }

    public int least() {
        return seeker.seek(piece);
    }

    public int find() {
        int n = seeker.seek(piece);
        if (n >= 0) {
            seeker.writeScheme(piece, n);
        }
        return n;
    }

    // ---- running

    public int hand(int which, int i, int v) {
        if (which != U && which != V) {
            return NUMBER;
        }
        if (!piece.hasIndex(which, i) || !ground.isNumber(v)) {
            return NUMBER;
        }
        inHand[which] = ground.withNumber(inHand[which], i, v);
        return DONE;
    }

    public int run(int how) {
        switch (how) {
            case 0:
                return runner.byBox(piece, inHand[U], inHand[V]);
            case 1:
                return runner.byScheme(piece, inHand[U], inHand[V]);
            default:
                return NUMBER;
        }
    }

    public int sums(int which, int how) {
        if (which != U && which != V) {
            return NUMBER;
        }
        switch (how) {
            case 0:
                return sharer.plainSums(piece, which);
            case 1:
                return sharer.sharedSums(piece, which);
            default:
                return NUMBER;
        }
    }

    // ---- kept ones

    public int keep(int p) {
        if (!isPlace(p)) {
            return NUMBER;
        }
        kept[p].copyFrom(piece);
        isKept[p] = true;
        return DONE;
    }

    public int back(int p) {
        int fault = faultOfPlace(p);
        if (fault != 0) {
            return fault;
        }
        piece.copyFrom(kept[p]);
        emptyHands();
        return DONE;
    }

    public int beside(int p) {
        int fault = faultOfPlace(p);
        if (fault != 0) {
            return fault;
        }
        Piece other = kept[p];
        for (int way = 0; way < WAYS; way++) {
            if (piece.size[way] + other.size[way] > MAX_SIZE) {
                return LARGE;
            }
        }
        if (piece.times + other.times > MAX_TIMES) {
            return FULL;
        }
        joiner.putBeside(piece, other, spare);
        takeSpare();
        return piece.times;
    }

    public int within(int p) {
        int fault = faultOfPlace(p);
        if (fault != 0) {
            return fault;
        }
        Piece other = kept[p];
        for (int way = 0; way < WAYS; way++) {
            if (piece.size[way] * other.size[way] > MAX_SIZE) {
                return LARGE;
            }
        }
        if (piece.times * other.times > MAX_TIMES) {
            return FULL;
        }
        joiner.putWithin(piece, other, spare);
        takeSpare();
        return piece.times;
    }

    // ---- helpers of the face

    private static boolean isSize(int n) {
        return n >= 1 && n <= MAX_SIZE;
    }

    private static boolean isWay(int which) {
        return which >= 0 && which < WAYS;
    }

    private static boolean isPlace(int p) {
        return p >= 0 && p < PLACES;
    }

    private int faultOfPlace(int p) {
        if (!isPlace(p)) {
            return NUMBER;
        }
        return isKept[p] ? 0 : STATE;
    }

    private void startBox(int a, int b, int c) {
        piece.start(a, b, c);
        emptyHands();
    }

    private void emptyHands() {
        inHand[U] = 0;
        inHand[V] = 0;
    }

    private void takeSpare() {
        Piece before = piece;
        piece = spare;
        spare = before;
        emptyHands();
    }

    private int rankBy(int which) {
        int outer = which == U ? V : U;
        int inner = which == W ? V : W;
        columns.clear();
        for (int m = 0; m < piece.size[outer]; m++) {
            for (int n = 0; n < piece.size[inner]; n++) {
                columns.add(piece.line(which, m, n));
            }
        }
        return columns.count;
    }

    /** The numbers modulo P, and what can be done with rows of them that are told as one int. */
    private static final class Ground {
        int p;
        final int[] power = new int[MAX_SIZE + 1];
        final int[] inverse = new int[MAX_GROUND];

        Ground() {
            become(2);
        }

        static boolean canBe(int p) {
            return p == 2 || p == 3 || p == 5 || p == 7;
        }

        void become(int next) {
            p = next;
            power[0] = 1;
            for (int i = 1; i <= MAX_SIZE; i++) {
                power[i] = power[i - 1] * p;
            }
            for (int a = 1; a < p; a++) {
                for (int b = 1; b < p; b++) {
                    if (a * b % p == 1) {
                        inverse[a] = b;
                    }
                }
            }
        }

        boolean isNumber(int v) {
            return v >= 0 && v < p;
        }

        int number(int row, int i) {
            return row / power[i] % p;
        }

        int withNumber(int row, int i, int v) {
            return row + (v - number(row, i)) * power[i];
        }

        /** Row a plus f times row b. */
        int plus(int a, int f, int b) {
            if (f == 0) {
                return a;
            }
            if (p == 2) {
                // Over 2 a row's numbers are the int's bits, and nothing is carried.
                return a ^ b;
            }
            int sum = 0;
            int restA = a;
            int restB = b;
            for (int i = 0; i < MAX_SIZE && (restA | restB) != 0; i++) {
                sum += (restA % p + f * (restB % p)) % p * power[i];
                restA /= p;
                restB /= p;
            }
            return sum;
        }

        int minus(int a, int f, int b) {
            return plus(a, (p - f) % p, b);
        }

        /** Where the first number is that isn't 0; the row isn't noughts. */
        int firstIndex(int row) {
            int rest = row;
            for (int i = 0; i < MAX_SIZE; i++) {
                if (rest % p != 0) {
                    return i;
                }
                rest /= p;
            }
            return 0;
        }

        /** The first number that isn't 0; 0 of noughts. */
        int first(int row) {
            return row == 0 ? 0 : number(row, firstIndex(row));
        }

        /** The row alike to this one whose first number that isn't 0 is 1: alike rows have the same. */
        int shape(int row) {
            if (p == 2 || row == 0) {
                return row;
            }
            return plus(0, inverse[number(row, firstIndex(row))], row);
        }

        int filled(int row) {
            int filled = 0;
            int rest = row;
            for (int i = 0; i < MAX_SIZE && rest != 0; i++) {
                if (rest % p != 0) {
                    filled++;
                }
                rest /= p;
            }
            return filled;
        }

        int sumOfProducts(int a, int b) {
            int sum = 0;
            int restA = a;
            int restB = b;
            for (int i = 0; i < MAX_SIZE && restA != 0 && restB != 0; i++) {
                sum += restA % p * (restB % p);
                restA /= p;
                restB /= p;
            }
            return sum % p;
        }

        /** Each of the first row's numbers times the second row, which has that many numbers. */
        int product(int outer, int inner, int innerSize) {
            int whole = 0;
            int rest = outer;
            for (int i = 0; i < MAX_SIZE && i * innerSize < MAX_SIZE; i++) {
                whole += plus(0, rest % p, inner) * power[i * innerSize];
                rest /= p;
            }
            return whole;
        }

        /** How many rows of so many numbers have 1 as the first number that isn't 0. */
        int shapes(int size) {
            return (power[size] - 1) / (p - 1);
        }
    }

    /** A box with its scheme. */
    private static final class Piece {
        final Ground ground;
        final int[] size = new int[WAYS];
        final int[] fiber = new int[MAX_SIZE * MAX_SIZE];
        final int[] row = new int[WAYS * MAX_TIMES];
        final int[] shape = new int[WAYS * MAX_TIMES];
        /** How many other times have a row alike to this one, kept up so that no walk counts anew. */
        final int[] mates = new int[WAYS * MAX_TIMES];
        int times;

        Piece(Ground ground) {
            this.ground = ground;
            start(1, 1, 1);
        }

        void start(int a, int b, int c) {
            size[U] = a;
            size[V] = b;
            size[W] = c;
            Arrays.fill(fiber, 0);
            times = 0;
        }

        void copyFrom(Piece other) {
            System.arraycopy(other.size, 0, size, 0, WAYS);
            System.arraycopy(other.fiber, 0, fiber, 0, MAX_SIZE * MAX_SIZE);
            System.arraycopy(other.row, 0, row, 0, WAYS * MAX_TIMES);
            System.arraycopy(other.shape, 0, shape, 0, WAYS * MAX_TIMES);
            System.arraycopy(other.mates, 0, mates, 0, WAYS * MAX_TIMES);
            times = other.times;
        }

        boolean hasIndex(int which, int i) {
            return i >= 0 && i < size[which];
        }

        boolean hasPlace(int i, int j, int k) {
            return hasIndex(U, i) && hasIndex(V, j) && hasIndex(W, k);
        }

        boolean hasTime(int t) {
            return t >= 0 && t < times;
        }

        boolean fits(int which, int told) {
            return told >= 0 && told < ground.power[size[which]];
        }

        int fiberAt(int i, int j) {
            return fiber[MAX_SIZE * i + j];
        }

        void setFiber(int i, int j, int told) {
            fiber[MAX_SIZE * i + j] = told;
        }

        int number(int i, int j, int k) {
            return ground.number(fiberAt(i, j), k);
        }

        void setNumber(int i, int j, int k, int v) {
            setFiber(i, j, ground.withNumber(fiberAt(i, j), k, v));
        }

        int filledPlaces() {
            int filled = 0;
            for (int i = 0; i < size[U]; i++) {
                for (int j = 0; j < size[V]; j++) {
                    filled += ground.filled(fiberAt(i, j));
                }
            }
            return filled;
        }

        /** The numbers along one way, as a row; m and n are the other two indices in order. */
        int line(int which, int m, int n) {
            if (which == W) {
                return fiberAt(m, n);
            }
            int told = 0;
            for (int l = 0; l < size[which]; l++) {
                int v = which == U ? number(l, m, n) : number(m, l, n);
                told += v * ground.power[l];
            }
            return told;
        }

        int rowOf(int which, int t) {
            return row[MAX_TIMES * which + t];
        }

        void put(int which, int t, int told) {
            int at = MAX_TIMES * which + t;
            countMates(which, t, -1);
            row[at] = told;
            shape[at] = ground.shape(told);
            countMates(which, t, 1);
        }

        private void countMates(int which, int t, int change) {
            int from = MAX_TIMES * which;
            int own = shape[from + t];
            if (own == 0) {
                return;
            }
            for (int at = from; at < from + times; at++) {
                if (shape[at] == own && at != from + t) {
                    mates[at] += change;
                    mates[from + t] += change;
                }
            }
        }

        void append(int u, int v, int w) {
            for (int which = 0; which < WAYS; which++) {
                shape[MAX_TIMES * which + times] = 0;
                mates[MAX_TIMES * which + times] = 0;
            }
            times++;
            put(U, times - 1, u);
            put(V, times - 1, v);
            put(W, times - 1, w);
        }

        void remove(int t) {
            int behind = times - t - 1;
            for (int which = 0; which < WAYS; which++) {
                int at = MAX_TIMES * which + t;
                countMates(which, t, -1);
                System.arraycopy(row, at + 1, row, at, behind);
                System.arraycopy(shape, at + 1, shape, at, behind);
                System.arraycopy(mates, at + 1, mates, at, behind);
            }
            times--;
        }

        void becomePlain() {
            times = 0;
            for (int i = 0; i < size[U]; i++) {
                for (int j = 0; j < size[V]; j++) {
                    appendPlain(i, j);
                }
            }
        }

        private void appendPlain(int i, int j) {
            for (int k = 0; k < size[W]; k++) {
                int v = number(i, j, k);
                if (v != 0 && times < MAX_TIMES) {
                    append(ground.power[i], ground.power[j], v * ground.power[k]);
                }
            }
        }

        int matesOf(int which, int t) {
            return mates[MAX_TIMES * which + t];
        }

        boolean alike(int which, int s, int t) {
            int shared = shape[MAX_TIMES * which + s];
            return shared != 0 && shared == shape[MAX_TIMES * which + t];
        }

        /** By what two rows are alike that are. */
        int factor(int which, int s, int t) {
            int from = ground.first(rowOf(which, s));
            int to = ground.first(rowOf(which, t));
            return to * ground.inverse[from] % ground.p;
        }

        /** Adds f times what is at index b of one way to what is at index a, in box and scheme. */
        void addIndex(int which, int a, int b, int f) {
            int outer = which == U ? V : U;
            for (int m = 0; m < size[outer]; m++) {
                if (which == U) {
                    setFiber(a, m, ground.plus(fiberAt(a, m), f, fiberAt(b, m)));
                } else if (which == V) {
                    setFiber(m, a, ground.plus(fiberAt(m, a), f, fiberAt(m, b)));
                } else {
                    addIndexInFibers(m, a, b, f);
                }
            }
            for (int t = 0; t < times; t++) {
                put(which, t, addedInRow(rowOf(which, t), a, b, f));
            }
        }

        private void addIndexInFibers(int i, int a, int b, int f) {
            for (int j = 0; j < size[V]; j++) {
                setFiber(i, j, addedInRow(fiberAt(i, j), a, b, f));
            }
        }

        private int addedInRow(int told, int a, int b, int f) {
            int v = (ground.number(told, a) + f * ground.number(told, b)) % ground.p;
            return ground.withNumber(told, a, v);
        }
    }

    /** Moves schemes step by step, and lessens them. */
    private static final class Mover {
        final Ground ground;

        Mover(Ground ground) {
            this.ground = ground;
        }

        int countMoves(Piece piece) {
            int moves = 0;
            for (int which = 0; which < WAYS; which++) {
                for (int s = 0; s < piece.times; s++) {
                    moves += piece.matesOf(which, s);
                }
            }
            return moves;
        }

        void doNumbered(Piece piece, int n) {
            int left = n;
            for (int which = 0; which < WAYS; which++) {
                for (int s = 0; s < piece.times; s++) {
                    int mates = piece.matesOf(which, s);
                    if (left < mates) {
                        doMove(piece, which, s, mateOf(piece, which, s, left));
                        return;
                    }
                    left -= mates;
                }
            }
        }

        private int mateOf(Piece piece, int which, int s, int n) {
            int left = n;
            for (int t = 0; t < piece.times; t++) {
                if (t != s && piece.alike(which, s, t)) {
                    if (left == 0) {
                        return t;
                    }
                    left--;
                }
            }
            return s;
        }

        void doMove(Piece piece, int which, int s, int t) {
            int next = (which + 1) % WAYS;
            int last = (which + 2) % WAYS;
            int f = piece.factor(which, s, t);
            int nextOfT = ground.plus(0, f, piece.rowOf(next, t));
            piece.put(which, t, piece.rowOf(which, s));
            piece.put(next, t, nextOfT);
            piece.put(next, s, ground.plus(piece.rowOf(next, s), 1, nextOfT));
            piece.put(last, t, ground.minus(piece.rowOf(last, t), 1, piece.rowOf(last, s)));
        }

        /** How many times went. */
        int lessen(Piece piece) {
            int before = piece.times;
            for (int round = 0; round < before; round++) {
                if (!dropNoughts(piece) && !joinAlike(piece)) {
                    break;
                }
            }
            return before - piece.times;
        }

        private boolean dropNoughts(Piece piece) {
            for (int t = 0; t < piece.times; t++) {
                if (piece.rowOf(U, t) == 0 || piece.rowOf(V, t) == 0 || piece.rowOf(W, t) == 0) {
                    piece.remove(t);
                    return true;
                }
            }
            return false;
        }

        private boolean joinAlike(Piece piece) {
            for (int s = 0; s < piece.times; s++) {
                if (waysWithMates(piece, s) < 2) {
                    continue;
                }
                for (int t = s + 1; t < piece.times; t++) {
                    int third = thirdBesideAlike(piece, s, t);
                    if (third != NONE) {
                        join(piece, s, t, third);
                        return true;
                    }
                }
            }
            return false;
        }

        private int waysWithMates(Piece piece, int s) {
            int ways = 0;
            for (int which = 0; which < WAYS; which++) {
                if (piece.matesOf(which, s) > 0) {
                    ways++;
                }
            }
            return ways;
        }

        private int thirdBesideAlike(Piece piece, int s, int t) {
            boolean alikeU = piece.alike(U, s, t);
            boolean alikeV = piece.alike(V, s, t);
            if (alikeU && alikeV) {
                return W;
            }
            if (!alikeU && !alikeV || !piece.alike(W, s, t)) {
                return NONE;
            }
            return alikeU ? V : U;
        }

        private void join(Piece piece, int s, int t, int third) {
            int f = piece.factor((third + 1) % WAYS, s, t);
            int g = piece.factor((third + 2) % WAYS, s, t);
            int both = f * g % ground.p;
            piece.put(third, s, ground.plus(piece.rowOf(third, s), both, piece.rowOf(third, t)));
            piece.remove(t);
        }
    }

    /** Makes a piece out of others; the sizes and times have been seen to fit. */
    private static final class Joiner {
        final Ground ground;

        Joiner(Ground ground) {
            this.ground = ground;
        }

        void turnRound(Piece from, Piece to) {
            to.start(from.size[V], from.size[W], from.size[U]);
            for (int j = 0; j < from.size[V]; j++) {
                for (int k = 0; k < from.size[W]; k++) {
                    to.setFiber(j, k, from.line(U, j, k));
                }
            }
            for (int t = 0; t < from.times; t++) {
                to.append(from.rowOf(V, t), from.rowOf(W, t), from.rowOf(U, t));
            }
        }

        void putBeside(Piece near, Piece far, Piece to) {
            int a = near.size[U];
            int b = near.size[V];
            int c = near.size[W];
            to.start(a + far.size[U], b + far.size[V], c + far.size[W]);
            for (int i = 0; i < a; i++) {
                for (int j = 0; j < b; j++) {
                    to.setFiber(i, j, near.fiberAt(i, j));
                }
            }
            for (int i = 0; i < far.size[U]; i++) {
                for (int j = 0; j < far.size[V]; j++) {
                    to.setFiber(a + i, b + j, far.fiberAt(i, j) * ground.power[c]);
                }
            }
            for (int t = 0; t < near.times; t++) {
                to.append(near.rowOf(U, t), near.rowOf(V, t), near.rowOf(W, t));
            }
            for (int t = 0; t < far.times; t++) {
                to.append(far.rowOf(U, t) * ground.power[a], far.rowOf(V, t) * ground.power[b],
                        far.rowOf(W, t) * ground.power[c]);
            }
        }

        void putWithin(Piece outer, Piece inner, Piece to) {
            to.start(outer.size[U] * inner.size[U], outer.size[V] * inner.size[V],
                    outer.size[W] * inner.size[W]);
            for (int i = 0; i < outer.size[U]; i++) {
                for (int j = 0; j < outer.size[V]; j++) {
                    fillWithin(outer, i, j, inner, to);
                }
            }
            for (int s = 0; s < outer.times; s++) {
                for (int t = 0; t < inner.times; t++) {
                    to.append(rowWithin(outer, s, inner, t, U), rowWithin(outer, s, inner, t, V),
                            rowWithin(outer, s, inner, t, W));
                }
            }
        }

        private void fillWithin(Piece outer, int i, int j, Piece inner, Piece to) {
            int big = outer.fiberAt(i, j);
            int a = inner.size[U];
            int b = inner.size[V];
            for (int m = 0; m < a; m++) {
                for (int n = 0; n < b; n++) {
                    int whole = ground.product(big, inner.fiberAt(m, n), inner.size[W]);
                    to.setFiber(i * a + m, j * b + n, whole);
                }
            }
        }

        private int rowWithin(Piece outer, int s, Piece inner, int t, int which) {
            return ground.product(outer.rowOf(which, s), inner.rowOf(which, t), inner.size[which]);
        }
    }

    /** Reckons what boxes and schemes answer, and where the two differ. */
    private static final class Runner {
        final Ground ground;
        final int[] added = new int[MAX_SIZE * MAX_SIZE];

        Runner(Ground ground) {
            this.ground = ground;
        }

        int byBox(Piece piece, int x, int y) {
            int z = 0;
            for (int i = 0; i < piece.size[U]; i++) {
                for (int j = 0; j < piece.size[V]; j++) {
                    int f = ground.number(x, i) * ground.number(y, j) % ground.p;
                    z = ground.plus(z, f, piece.fiberAt(i, j));
                }
            }
            return z;
        }

        int byScheme(Piece piece, int x, int y) {
            int z = 0;
            for (int t = 0; t < piece.times; t++) {
                int ux = ground.sumOfProducts(piece.rowOf(U, t), x);
                int vy = ground.sumOfProducts(piece.rowOf(V, t), y);
                z = ground.plus(z, ux * vy % ground.p, piece.rowOf(W, t));
            }
            return z;
        }

        /** The n-th place where what the scheme adds isn't what the box has. */
        int wrongPlace(Piece piece, int n) {
            addAll(piece);
            int left = n;
            for (int i = 0; i < piece.size[U]; i++) {
                for (int j = 0; j < piece.size[V]; j++) {
                    int off = ground.minus(added[MAX_SIZE * i + j], 1, piece.fiberAt(i, j));
                    int wrong = ground.filled(off);
                    if (wrong > left) {
                        return 100 * i + 10 * j + filledIndex(off, left);
                    }
                    left -= wrong;
                }
            }
            return NONE;
        }

        private int filledIndex(int told, int n) {
            int left = n;
            for (int k = 0; k < MAX_SIZE; k++) {
                if (ground.number(told, k) != 0) {
                    if (left == 0) {
                        return k;
                    }
                    left--;
                }
            }
            return 0;
        }

        private void addAll(Piece piece) {
            Arrays.fill(added, 0);
            for (int t = 0; t < piece.times; t++) {
                int u = piece.rowOf(U, t);
                for (int i = 0; i < piece.size[U]; i++) {
                    int f = ground.number(u, i);
                    if (f != 0) {
                        addLine(piece, t, i, f);
                    }
                }
            }
        }

        private void addLine(Piece piece, int t, int i, int f) {
            int v = piece.rowOf(V, t);
            int w = piece.rowOf(W, t);
            for (int j = 0; j < piece.size[V]; j++) {
                int g = f * ground.number(v, j) % ground.p;
                int at = MAX_SIZE * i + j;
                added[at] = ground.plus(added[at], g, w);
            }
        }
    }

    /**
     * Rows none of which comes of the others. Each has 1 at its pivot, where all behind it have 0,
     * and remembers how it is blended of the rows that were added.
     */
    private static final class Basis {
        final Ground ground;
        final int[] vector = new int[MAX_SIZE];
        final int[] pivot = new int[MAX_SIZE];
        final int[] blend = new int[MAX_SIZE];
        int count;

        Basis(Ground ground) {
            this.ground = ground;
        }

        void clear() {
            count = 0;
        }

        int reduce(int told) {
            int rest = told;
            for (int m = 0; m < count; m++) {
                rest = ground.minus(rest, ground.number(rest, pivot[m]), vector[m]);
            }
            return rest;
        }

        /** The numbers by which the rows added sum up to this one, which comes of them. */
        int blendOf(int told) {
            int rest = told;
            int whole = 0;
            for (int m = 0; m < count; m++) {
                int f = ground.number(rest, pivot[m]);
                rest = ground.minus(rest, f, vector[m]);
                whole = ground.plus(whole, f, blend[m]);
            }
            return whole;
        }

        /** Adds a row, unless it comes of those there. */
        boolean add(int told) {
            int rest = reduce(told);
            if (rest == 0 || count >= MAX_SIZE) {
                return false;
            }
            int scale = ground.inverse[ground.first(rest)];
            int own = ground.minus(ground.power[count], 1, blendOf(told));
            vector[count] = ground.plus(0, scale, rest);
            pivot[count] = ground.firstIndex(rest);
            blend[count] = ground.plus(0, scale, own);
            count++;
            return true;
        }

        void removeLast() {
            if (count > 0) {
                count--;
            }
        }
    }

    /**
     * Seeks the least scheme. The pairs' tables and the box's slices (its tables by k) are rows of
     * A times B numbers: at most 9, as there are at most 60 pairs.
     */
    private static final class Seeker {
        final Ground ground;
        final Basis slices;
        final Basis chosen;
        final int[] pairU = new int[MAX_PAIRS];
        final int[] pairV = new int[MAX_PAIRS];
        final int[] table = new int[MAX_PAIRS];
        /** What is left of each table beside the slices and as many strangers as the first index says. */
        final int[][] left = new int[MAX_LEAST + 1][MAX_PAIRS];
        final int[] pick = new int[MAX_LEAST];
        int pairs;
        int wanted;
        int strangers;

        Seeker(Ground ground) {
            this.ground = ground;
            slices = new Basis(ground);
            chosen = new Basis(ground);
        }

        /** The least number of times, with the pairs picked; or LARGE or ABOVE. */
        int seek(Piece piece) {
            int a = piece.size[U];
            int b = piece.size[V];
            if ((long) ground.shapes(a) * ground.shapes(b) > MAX_PAIRS) {
                return LARGE;
            }
            takeSlices(piece);
            listPairs(a, b);
            for (int n = slices.count; n <= MAX_LEAST; n++) {
                wanted = n;
                // All slices come of n tables, none of which comes of the others, just if these
                // bring no more than so many strangers to the slices.
                strangers = n - slices.count;
                chosen.clear();
                if (pickFrom(this, 0, 0, 0)) {
                    return n;
                }
            }
            return ABOVE;
        }

        private void takeSlices(Piece piece) {
            slices.clear();
            for (int k = 0; k < piece.size[W]; k++) {
                slices.add(sliceOf(piece, k));
            }
        }

        private int sliceOf(Piece piece, int k) {
            int told = 0;
            for (int i = 0; i < piece.size[U]; i++) {
                for (int j = 0; j < piece.size[V]; j++) {
                    told += piece.number(i, j, k) * ground.power[i * piece.size[V] + j];
                }
            }
            return told;
        }

        private void listPairs(int a, int b) {
            pairs = 0;
            for (int u = 1; u < ground.power[a]; u++) {
                if (ground.first(u) == 1) {
                    listPairsOf(u, b);
                }
            }
        }

        private void listPairsOf(int u, int b) {
            for (int v = 1; v < ground.power[b]; v++) {
                if (ground.first(v) == 1 && pairs < MAX_PAIRS) {
                    pairU[pairs] = u;
                    pairV[pairs] = v;
                    table[pairs] = ground.product(u, v, b);
                    left[0][pairs] = slices.reduce(table[pairs]);
                    pairs++;
                }
            }
        }

        /**
         * Trying pairs in rising order, the first choice that does is the first of all. Static, as
         * the language's rule 8 wants of a method that calls itself.
         */
        private static boolean pickFrom(Seeker seeker, int depth, int from, int met) {
            if (depth >= seeker.wanted || depth >= MAX_LEAST) {
                return true;
            }
            for (int n = from; n < seeker.pairs; n++) {
                boolean stranger = seeker.left[met][n] != 0;
                if (stranger && met >= seeker.strangers || !seeker.chosen.add(seeker.table[n])) {
                    continue;
                }
                seeker.pick[depth] = n;
                if (stranger) {
                    seeker.meet(met, n);
                }
                if (pickFrom(seeker, depth + 1, n + 1, stranger ? met + 1 : met)) {
                    return true;
                }
                seeker.chosen.removeLast();
            }
            return false;
        }

        private void meet(int met, int stranger) {
            int rest = ground.shape(left[met][stranger]);
            int pivot = ground.firstIndex(rest);
            for (int n = stranger + 1; n < pairs; n++) {
                int other = left[met][n];
                left[met + 1][n] = ground.minus(other, ground.number(other, pivot), rest);
            }
        }

        /** Makes the scheme out of the pairs that the last search has picked. */
        void writeScheme(Piece piece, int n) {
            piece.times = 0;
            for (int s = 0; s < n; s++) {
                piece.append(pairU[pick[s]], pairV[pick[s]], 0);
            }
            for (int k = 0; k < piece.size[W]; k++) {
                int blend = chosen.blendOf(sliceOf(piece, k));
                for (int s = 0; s < n; s++) {
                    int w = ground.withNumber(piece.rowOf(W, s), k, ground.number(blend, s));
                    piece.put(W, s, w);
                }
            }
        }
    }

    /** Counts sums. Rows are held as lists of their columns that aren't 0, in rising order. */
    private static final class Sharer {
        final Ground ground;
        final int[] column = new int[MAX_TIMES * MAX_SIZE];
        final int[] value = new int[MAX_TIMES * MAX_SIZE];
        final int[] length = new int[MAX_TIMES];
        final int[] tally = new int[MAX_COLUMNS * MAX_GROUND];
        int lists;
        int columns;
        int bestCount;
        int bestA;
        int bestKey;

        Sharer(Ground ground) {
            this.ground = ground;
        }

        int plainSums(Piece piece, int which) {
            load(piece, which);
            return sumsOfLists();
        }

        int sharedSums(Piece piece, int which) {
            load(piece, which);
            int shared = 0;
            while (shared < MAX_SHARED && seekBest()) {
                takeBest();
                shared++;
            }
            return shared + sumsOfLists();
        }

        private void load(Piece piece, int which) {
            lists = piece.times;
            columns = piece.size[which];
            for (int t = 0; t < lists; t++) {
                length[t] = 0;
                for (int i = 0; i < columns; i++) {
                    int v = ground.number(piece.rowOf(which, t), i);
                    if (v != 0) {
                        append(t, i, v);
                    }
                }
            }
        }

        private void append(int t, int col, int v) {
            int at = MAX_SIZE * t + length[t];
            column[at] = col;
            value[at] = v;
            length[t]++;
        }

        private int sumsOfLists() {
            int sum = 0;
            for (int t = 0; t < lists; t++) {
                sum += Math.max(0, length[t] - 1);
            }
            return sum;
        }

        private boolean seekBest() {
            bestCount = 1;
            bestA = NONE;
            bestKey = NONE;
            for (int a = 0; a < columns; a++) {
                Arrays.fill(tally, 0, columns * MAX_GROUND, 0);
                for (int t = 0; t < lists; t++) {
                    int at = indexOf(t, a);
                    if (at != NONE) {
                        tallyBehind(t, at);
                    }
                }
            }
            return bestCount >= 2;
        }

        private int indexOf(int t, int col) {
            int end = MAX_SIZE * t + length[t];
            for (int at = MAX_SIZE * t; at < end && column[at] <= col; at++) {
                if (column[at] == col) {
                    return at;
                }
            }
            return NONE;
        }

        private void tallyBehind(int t, int at) {
            int end = MAX_SIZE * t + length[t];
            for (int other = at + 1; other < end; other++) {
                int key = keyOf(at, other);
                tally[key]++;
                boolean first = bestA == column[at] && key < bestKey;
                if (tally[key] > bestCount || tally[key] == bestCount && first) {
                    bestCount = tally[key];
                    bestA = column[at];
                    bestKey = key;
                }
            }
        }

        /** Column b and factor r as one number that stands by b, then by r. */
        private int keyOf(int a, int b) {
            int r = value[b] * ground.inverse[value[a]] % ground.p;
            return column[b] * MAX_GROUND + r;
        }

        private void takeBest() {
            for (int t = 0; t < lists; t++) {
                int a = indexOf(t, bestA);
                int b = indexOf(t, bestKey / MAX_GROUND);
                if (a != NONE && b != NONE && keyOf(a, b) == bestKey) {
                    int c = value[a];
                    cut(t, b);
                    cut(t, a);
                    append(t, columns, c);
                }
            }
            columns++;
        }

        private void cut(int t, int at) {
            int behind = MAX_SIZE * t + length[t] - at - 1;
            System.arraycopy(column, at + 1, column, at, behind);
            System.arraycopy(value, at + 1, value, at, behind);
            length[t]--;
        }
    }
}
