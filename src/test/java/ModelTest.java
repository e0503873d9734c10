import java.util.ArrayList;
import java.util.Arrays;
import java.util.List;
import java.util.Random;

/**
 * Runs of random calls (always the same ones), answered by the class and by a model that follows the
 * document word by word with plain tables of numbers, and compared call by call.
 */
public final class ModelTest {
    private static final int CALLS = 512;
    private static final int[] GROUNDS = {2, 3, 5, 7};
    private static final int[] FAR = {Integer.MIN_VALUE, Integer.MAX_VALUE, 40353607, 65536, 512, -2};
    /** Grounds with sizes A and B of few enough pairs to be gone through, and some that are too large. */
    private static final int[][] SEARCHED = {{2, 3, 3}, {2, 2, 4}, {2, 4, 2}, {2, 1, 5}, {2, 3, 2}, {2, 2, 2},
        {3, 2, 3}, {3, 3, 2}, {3, 4, 1}, {3, 2, 2}, {5, 2, 2}, {5, 1, 3}, {7, 1, 3}, {7, 2, 1},
        {2, 3, 4}, {2, 6, 1}, {3, 3, 3}, {3, 1, 5}, {5, 2, 3}, {7, 2, 2}, {7, 4, 1}, {7, 9, 9}};
    private static int wrong = 0;

    public static void main(String[] args) {
        int runs = args.length > 0 ? Integer.parseInt(args[0]) : 120;
        int first = args.length > 1 ? Integer.parseInt(args[1]) : 0;
        for (int run = first; run < first + runs && wrong == 0; run++) {
            new Run(run).go();
        }
        for (int run = 0; run < 8 && wrong == 0; run++) {
            for (int[] searched : SEARCHED) {
                new Run(run).search(searched[0], searched[1], searched[2], 1 + run % 5);
            }
            for (int p : GROUNDS) {
                new Run(run).sumUp(p, 40 - run, 9 - run % 3);
            }
        }
        System.out.println(wrong == 0 ? "model: all answers agree" : "model: answers differ");
        if (wrong != 0) {
            System.exit(1);
        }
    }

    /** One object, its model, and what has been called. */
    private static final class Run {
        final int number;
        final Random random;
        final TimesBench bench = new TimesBench();
        final Model model = new Model();
        final List<String> calls = new ArrayList<>();
        /** How many calls of least and find the model may still answer: it goes through everything. */
        int searches = 12;

        Run(int number) {
            this.number = number;
            this.random = new Random(7919L * number + 1);
        }

        void go() {
            for (int call = 0; call < CALLS && wrong == 0; call++) {
                step();
                if (call % 16 == 0) {
                    compareAll();
                }
            }
        }

        /** A box all filled at random: what is least of it, and which scheme is the first. */
        void search(int p, int a, int b, int c) {
            due(bench.ground(p), model.ground(p), "ground", p);
            due(bench.box(a, b, c), model.box(a, b, c), "box", a, b, c);
            for (int i = 0; i < a; i++) {
                for (int j = 0; j < b; j++) {
                    for (int k = 0; k < c; k++) {
                        int v = random.nextInt(p);
                        due(bench.set(i, j, k, v), model.set(i, j, k, v), "set", i, j, k, v);
                    }
                }
            }
            due(bench.least(), model.least(), "least");
            due(bench.find(), model.find(), "find");
            compareAll();
        }

        /** Many wide rows: what is shared goes on until no more columns may come. */
        void sumUp(int p, int times, int size) {
            due(bench.ground(p), model.ground(p), "ground", p);
            due(bench.box(size, size, 1), model.box(size, size, 1), "box", size, size, 1);
            int all = (int) Math.pow(p, size);
            for (int t = 0; t < times; t++) {
                int u = random.nextInt(all);
                int v = random.nextInt(all);
                due(bench.time(u, v, 1), model.time(u, v, 1), "time", u, v, 1);
            }
            for (int which = 0; which < 2; which++) {
                due(bench.sums(which, 0), model.sums(which, 0), "sums", which, 0);
                due(bench.sums(which, 1), model.sums(which, 1), "sums", which, 1);
            }
            compareAll();
        }

        /** A number below n; now and then one just outside. */
        int below(int n) {
            int roll = random.nextInt(60);
            if (roll == 0) {
                return -1;
            }
            if (roll == 1) {
                return n;
            }
            if (roll == 2) {
                return FAR[random.nextInt(FAR.length)];
            }
            return n <= 0 ? 0 : random.nextInt(n);
        }

        int size(int most) {
            int roll = random.nextInt(80);
            return roll == 0 ? 0 : roll == 1 ? 10 : roll == 2 ? 9 : 1 + random.nextInt(most);
        }

        int rowFor(int which) {
            int size = which >= 0 && which < 3 ? model.size[which] : 1;
            int all = (int) Math.pow(model.p, size);
            if (random.nextInt(3) == 0) {
                return below(Math.min(all, 2 * model.p));
            }
            return below(all);
        }

        int way() {
            return below(3);
        }

        void due(int got, int want, String name, int... args) {
            calls.add(name + Arrays.toString(args) + " " + got);
            if (got != want) {
                wrong++;
                System.out.println("run " + number + ": " + name + Arrays.toString(args) + " answered "
                        + got + ", the model " + want + "; calls: " + calls);
            }
        }

        void step() {
            int roll = random.nextInt(100);
            if (roll < 8) {
                newBox();
            } else if (roll < 20) {
                fill();
            } else if (roll < 60) {
                scheme();
            } else if (roll < 70) {
                bounds();
            } else if (roll < 85) {
                running();
            } else {
                keeping();
            }
        }

        void newBox() {
            int kind = random.nextInt(7);
            if (kind == 0) {
                int p = random.nextInt(8) == 0 ? random.nextInt(12) - 2 : GROUNDS[random.nextInt(4)];
                due(bench.ground(p), model.ground(p), "ground", p);
            } else if (kind == 1) {
                int a = size(9);
                int b = size(9);
                int c = size(9);
                due(bench.box(a, b, c), model.box(a, b, c), "box", a, b, c);
            } else if (kind <= 3) {
                int a = size(3);
                int b = size(3);
                int c = size(4);
                due(bench.box(a, b, c), model.box(a, b, c), "box", a, b, c);
            } else if (kind == 4) {
                int a = size(4);
                int b = size(4);
                int c = size(4);
                due(bench.tables(a, b, c), model.tables(a, b, c), "tables", a, b, c);
            } else {
                int n = size(5);
                int m = size(5);
                int w = random.nextBoolean() ? 0 : below(10);
                due(bench.rows(n, m, w), model.rows(n, m, w), "rows", n, m, w);
            }
        }

        void fill() {
            for (int n = random.nextInt(6); n >= 0; n--) {
                int i = below(model.size[0]);
                int j = below(model.size[1]);
                int k = below(model.size[2]);
                int v = below(model.p);
                due(bench.set(i, j, k, v), model.set(i, j, k, v), "set", i, j, k, v);
                due(bench.at(i, j, k), model.at(i, j, k), "at", i, j, k);
            }
        }

        void scheme() {
            int kind = random.nextInt(14);
            int t = below(model.times.size());
            int s = below(model.times.size());
            int which = way();
            switch (kind) {
                case 0:
                case 1:
                case 2:
                    addTimes();
                    break;
                case 3:
                    due(bench.row(t, which), model.row(t, which), "row", t, which);
                    break;
                case 4:
                    int told = rowFor(which);
                    due(bench.change(t, which, told), model.change(t, which, told), "change", t, which, told);
                    break;
                case 5:
                    due(bench.drop(t), model.drop(t), "drop", t);
                    break;
                case 6:
                    due(bench.plain(), model.plain(), "plain");
                    break;
                case 7:
                    due(bench.makes() ? 1 : 0, model.makes() ? 1 : 0, "makes");
                    break;
                case 8:
                    int n = random.nextInt(8) - 1;
                    due(bench.off(n), model.off(n), "off", n);
                    break;
                case 9:
                    due(bench.less(), model.less(), "less");
                    break;
                case 10:
                    due(bench.move(which, s, t), model.move(which, s, t), "move", which, s, t);
                    break;
                case 11:
                    walk();
                    break;
                case 12:
                    due(bench.around(), model.around(), "around");
                    break;
                default:
                    turn(which);
                    break;
            }
        }

        void addTimes() {
            int most = random.nextInt(10) == 0 ? 45 : 4;
            for (int n = random.nextInt(most); n >= 0; n--) {
                int u = rowFor(0);
                int v = rowFor(1);
                int w = rowFor(2);
                due(bench.time(u, v, w), model.time(u, v, w), "time", u, v, w);
            }
        }

        void walk() {
            int seed = random.nextInt();
            int n = random.nextInt(10) == 0 ? random.nextInt(204) - 1 : random.nextInt(4);
            due(bench.walk(seed, n), model.walk(seed, n), "walk", seed, n);
        }

        void turn(int which) {
            int size = which >= 0 && which < 3 ? model.size[which] : 2;
            int a = below(size);
            int b = below(size);
            int f = below(model.p);
            due(bench.turn(which, a, b, f), model.turn(which, a, b, f), "turn", which, a, b, f);
        }

        void bounds() {
            int kind = random.nextInt(3);
            if (kind == 0) {
                int which = below(4);
                due(bench.rank(which), model.rank(which), "rank", which);
            } else if (searches > 0) {
                searches--;
                if (kind == 1) {
                    due(bench.least(), model.least(), "least");
                } else {
                    due(bench.find(), model.find(), "find");
                    compareAll();
                }
            }
        }

        void running() {
            int kind = random.nextInt(4);
            if (kind == 0) {
                int which = below(2);
                int i = below(which == 1 ? model.size[1] : model.size[0]);
                int v = below(model.p);
                due(bench.hand(which, i, v), model.hand(which, i, v), "hand", which, i, v);
            } else if (kind == 1) {
                int how = below(2);
                due(bench.run(how), model.run(how), "run", how);
            } else {
                int which = below(2);
                int how = below(2);
                due(bench.sums(which, how), model.sums(which, how), "sums", which, how);
            }
        }

        void keeping() {
            int p = below(4);
            int kind = random.nextInt(5);
            if (kind <= 1) {
                due(bench.keep(p), model.keep(p), "keep", p);
            } else if (kind == 2) {
                due(bench.back(p), model.back(p), "back", p);
            } else if (kind == 3) {
                due(bench.beside(p), model.beside(p), "beside", p);
            } else {
                due(bench.within(p), model.within(p), "within", p);
            }
        }

        void compareAll() {
            for (int what = -1; what <= 7; what++) {
                due(bench.many(what), model.many(what), "many", what);
            }
            for (int i = 0; i < 9; i++) {
                for (int j = 0; j < 9; j++) {
                    for (int k = 0; k < 9; k++) {
                        due(bench.at(i, j, k), model.at(i, j, k), "at", i, j, k);
                        calls.remove(calls.size() - 1);
                    }
                }
            }
            for (int t = 0; t <= model.times.size(); t++) {
                for (int which = 0; which < 3; which++) {
                    due(bench.row(t, which), model.row(t, which), "row", t, which);
                    calls.remove(calls.size() - 1);
                }
            }
            due(bench.run(0), model.run(0), "run", 0);
            due(bench.run(1), model.run(1), "run", 1);
        }
    }

    /** The document, followed with plain tables of numbers. A time is three tables of numbers. */
    private static final class Model {
        int p = 2;
        int[] size = {1, 1, 1};
        int[][][] t = new int[1][1][1];
        List<int[][]> times = new ArrayList<>();
        int[] x = new int[1];
        int[] y = new int[1];
        final Model[] kept = new Model[4];

        int[] untold(int told, int n) {
            int[] row = new int[n];
            for (int i = 0; i < n; i++) {
                row[i] = told % p;
                told /= p;
            }
            return row;
        }

        int told(int[] row) {
            int told = 0;
            for (int i = row.length - 1; i >= 0; i--) {
                told = told * p + row[i];
            }
            return told;
        }

        boolean isRow(int told, int n) {
            return told >= 0 && told < Math.pow(p, n);
        }

        void fresh(int a, int b, int c) {
            size = new int[] {a, b, c};
            t = new int[a][b][c];
            times = new ArrayList<>();
            noHands();
        }

        void noHands() {
            x = new int[size[0]];
            y = new int[size[1]];
        }

        int ground(int next) {
            if (next != 2 && next != 3 && next != 5 && next != 7) {
                return -1;
            }
            p = next;
            Arrays.fill(kept, null);
            fresh(1, 1, 1);
            return 1;
        }

        boolean nine(int... ns) {
            for (int n : ns) {
                if (n < 1 || n > 9) {
                    return false;
                }
            }
            return true;
        }

        int box(int a, int b, int c) {
            if (!nine(a, b, c)) {
                return -1;
            }
            fresh(a, b, c);
            return 1;
        }

        int tables(int a, int b, int c) {
            if (!nine(a, b, c)) {
                return -1;
            }
            if (!nine(a * b, b * c, a * c)) {
                return -3;
            }
            fresh(a * b, b * c, a * c);
            for (int r = 0; r < a; r++) {
                for (int s = 0; s < b; s++) {
                    for (int q = 0; q < c; q++) {
                        t[b * r + s][c * s + q][c * r + q] = 1;
                    }
                }
            }
            return 1;
        }

        int rows(int n, int m, int w) {
            if (!nine(n, m) || w < 0 || w > 9) {
                return -1;
            }
            int c = w == 0 ? n + m - 1 : w;
            if (c > 9) {
                return -3;
            }
            fresh(n, m, c);
            for (int i = 0; i < n; i++) {
                for (int j = 0; j < m; j++) {
                    for (int k = 0; k < c; k++) {
                        boolean one = w == 0 ? k == i + j : k == (i + j) % w;
                        t[i][j][k] = one ? 1 : 0;
                    }
                }
            }
            return 1;
        }

        boolean place(int i, int j, int k) {
            return i >= 0 && i < size[0] && j >= 0 && j < size[1] && k >= 0 && k < size[2];
        }

        int set(int i, int j, int k, int v) {
            if (!place(i, j, k) || v < 0 || v >= p) {
                return -1;
            }
            int was = t[i][j][k];
            t[i][j][k] = v;
            return was;
        }

        int at(int i, int j, int k) {
            return place(i, j, k) ? t[i][j][k] : -1;
        }

        int many(int what) {
            if (what == 0) {
                return p;
            }
            if (what >= 1 && what <= 3) {
                return size[what - 1];
            }
            if (what == 4) {
                return times.size();
            }
            if (what == 5) {
                return (int) Arrays.stream(t).flatMap(Arrays::stream).flatMapToInt(Arrays::stream)
                        .filter(v -> v != 0).count();
            }
            return what == 6 ? moves().size() : -1;
        }

        int time(int u, int v, int w) {
            if (!isRow(u, size[0]) || !isRow(v, size[1]) || !isRow(w, size[2])) {
                return -1;
            }
            if (times.size() == 40) {
                return -2;
            }
            times.add(new int[][] {untold(u, size[0]), untold(v, size[1]), untold(w, size[2])});
            return times.size() - 1;
        }

        boolean isTime(int n) {
            return n >= 0 && n < times.size();
        }

        int row(int n, int which) {
            return isTime(n) && which >= 0 && which <= 2 ? told(times.get(n)[which]) : -1;
        }

        int change(int n, int which, int row) {
            if (!isTime(n) || which < 0 || which > 2 || !isRow(row, size[which])) {
                return -1;
            }
            times.get(n)[which] = untold(row, size[which]);
            return 1;
        }

        int drop(int n) {
            if (!isTime(n)) {
                return -1;
            }
            times.remove(n);
            return times.size();
        }

        int plain() {
            if (many(5) > 40) {
                return -2;
            }
            times.clear();
            for (int i = 0; i < size[0]; i++) {
                for (int j = 0; j < size[1]; j++) {
                    for (int k = 0; k < size[2]; k++) {
                        if (t[i][j][k] != 0) {
                            int[][] time = {new int[size[0]], new int[size[1]], new int[size[2]]};
                            time[0][i] = 1;
                            time[1][j] = 1;
                            time[2][k] = t[i][j][k];
                            times.add(time);
                        }
                    }
                }
            }
            return times.size();
        }

        List<Integer> wrongPlaces() {
            List<Integer> places = new ArrayList<>();
            for (int i = 0; i < size[0]; i++) {
                for (int j = 0; j < size[1]; j++) {
                    for (int k = 0; k < size[2]; k++) {
                        int sum = 0;
                        for (int[][] time : times) {
                            sum += time[0][i] * time[1][j] * time[2][k];
                        }
                        if (sum % p != t[i][j][k]) {
                            places.add(100 * i + 10 * j + k);
                        }
                    }
                }
            }
            return places;
        }

        boolean makes() {
            return wrongPlaces().isEmpty();
        }

        int off(int n) {
            List<Integer> places = wrongPlaces();
            return n >= 0 && n < places.size() ? places.get(n) : -1;
        }

        /** By what the second row is alike to the first one, 0 if it isn't. */
        int alike(int[] a, int[] b) {
            for (int f = 1; f < p; f++) {
                boolean all = true;
                boolean noughts = true;
                for (int i = 0; i < a.length; i++) {
                    all &= b[i] == f * a[i] % p;
                    noughts &= a[i] == 0;
                }
                if (all && !noughts) {
                    return f;
                }
            }
            return 0;
        }

        void addTo(int[] a, int f, int[] b) {
            for (int i = 0; i < a.length; i++) {
                a[i] = Math.floorMod(a[i] + f * b[i], p);
            }
        }

        boolean lessenOnce() {
            for (int n = 0; n < times.size(); n++) {
                for (int[] row : times.get(n)) {
                    if (Arrays.stream(row).allMatch(v -> v == 0)) {
                        times.remove(n);
                        return true;
                    }
                }
            }
            int[][] twos = {{0, 1, 2}, {0, 2, 1}, {1, 2, 0}};
            for (int s = 0; s < times.size(); s++) {
                for (int n = s + 1; n < times.size(); n++) {
                    for (int[] two : twos) {
                        int f = alike(times.get(s)[two[0]], times.get(n)[two[0]]);
                        int g = alike(times.get(s)[two[1]], times.get(n)[two[1]]);
                        if (f != 0 && g != 0) {
                            addTo(times.get(s)[two[2]], f * g, times.get(n)[two[2]]);
                            times.remove(n);
                            return true;
                        }
                    }
                }
            }
            return false;
        }

        int less() {
            int went = 0;
            while (lessenOnce()) {
                went++;
            }
            return went;
        }

        List<int[]> moves() {
            List<int[]> moves = new ArrayList<>();
            for (int which = 0; which < 3; which++) {
                for (int s = 0; s < times.size(); s++) {
                    for (int n = 0; n < times.size(); n++) {
                        if (s != n && alike(times.get(s)[which], times.get(n)[which]) != 0) {
                            moves.add(new int[] {which, s, n});
                        }
                    }
                }
            }
            return moves;
        }

        int move(int which, int s, int n) {
            if (which < 0 || which > 2 || !isTime(s) || !isTime(n) || s == n) {
                return -1;
            }
            int[][] one = times.get(s);
            int[][] two = times.get(n);
            int f = alike(one[which], two[which]);
            if (f == 0) {
                return -4;
            }
            int next = (which + 1) % 3;
            int last = (which + 2) % 3;
            two[which] = one[which].clone();
            addTo(two[next], f - 1, two[next].clone());
            addTo(one[next], 1, two[next]);
            addTo(two[last], -1, one[last]);
            return 1;
        }

        int walk(int seed, int n) {
            if (n < 0 || n > 200) {
                return -1;
            }
            int state = seed;
            for (int step = 0; step < n; step++) {
                List<int[]> moves = moves();
                if (moves.isEmpty()) {
                    break;
                }
                state = state * 1103515245 + 12345;
                long high = (state & 0xffffffffL) / 65536;
                int[] move = moves.get((int) (high % moves.size()));
                move(move[0], move[1], move[2]);
                less();
            }
            return times.size();
        }

        int around() {
            int[][][] turned = new int[size[1]][size[2]][size[0]];
            for (int i = 0; i < size[0]; i++) {
                for (int j = 0; j < size[1]; j++) {
                    for (int k = 0; k < size[2]; k++) {
                        turned[j][k][i] = t[i][j][k];
                    }
                }
            }
            t = turned;
            size = new int[] {size[1], size[2], size[0]};
            times.replaceAll(time -> new int[][] {time[1], time[2], time[0]});
            noHands();
            return 1;
        }

        int turn(int which, int a, int b, int f) {
            if (which < 0 || which > 2 || a < 0 || b < 0 || a >= size[which] || b >= size[which] || a == b
                    || f < 0 || f >= p) {
                return -1;
            }
            for (int i = 0; i < size[0]; i++) {
                for (int j = 0; j < size[1]; j++) {
                    for (int k = 0; k < size[2]; k++) {
                        if (which == 0 && i == a) {
                            t[i][j][k] = (t[i][j][k] + f * t[b][j][k]) % p;
                        } else if (which == 1 && j == a) {
                            t[i][j][k] = (t[i][j][k] + f * t[i][b][k]) % p;
                        } else if (which == 2 && k == a) {
                            t[i][j][k] = (t[i][j][k] + f * t[i][j][b]) % p;
                        }
                    }
                }
            }
            for (int[][] time : times) {
                time[which][a] = (time[which][a] + f * time[which][b]) % p;
            }
            return 1;
        }

        int rankOf(int[][] lines) {
            int rank = 0;
            int width = lines.length == 0 ? 0 : lines[0].length;
            for (int col = 0; col < width && rank < lines.length; col++) {
                int at = rank;
                while (at < lines.length && lines[at][col] == 0) {
                    at++;
                }
                if (at == lines.length) {
                    continue;
                }
                int[] line = lines[at];
                lines[at] = lines[rank];
                lines[rank] = line;
                for (int other = rank + 1; other < lines.length; other++) {
                    while (lines[other][col] != 0) {
                        addTo(lines[other], 1, line);
                    }
                }
                rank++;
            }
            return rank;
        }

        int rank(int which) {
            if (which == 3) {
                return Math.max(rank(0), Math.max(rank(1), rank(2)));
            }
            if (which < 0 || which > 3) {
                return -1;
            }
            int[][] table = new int[size[which]][81];
            for (int i = 0; i < size[0]; i++) {
                for (int j = 0; j < size[1]; j++) {
                    for (int k = 0; k < size[2]; k++) {
                        int line = which == 0 ? i : which == 1 ? j : k;
                        int column = which == 0 ? 9 * j + k : which == 1 ? 9 * i + k : 9 * i + j;
                        table[line][column] = t[i][j][k];
                    }
                }
            }
            return rankOf(table);
        }

        List<int[]> shapes(int n) {
            List<int[]> shapes = new ArrayList<>();
            for (int told = 1; told < Math.pow(p, n); told++) {
                int[] row = untold(told, n);
                int first = Arrays.stream(row).filter(v -> v != 0).findFirst().orElse(0);
                if (first == 1) {
                    shapes.add(row);
                }
            }
            return shapes;
        }

        /** The first n pairs (by brute force) that make the box, the pairs' numbers in rising order. */
        int[] firstPairs(List<int[][]> pairs, int n) {
            int[] pick = new int[n];
            for (int i = 0; i < n; i++) {
                pick[i] = i;
            }
            while (n <= pairs.size()) {
                if (span(pairs, pick)) {
                    return pick;
                }
                int at = n - 1;
                while (at >= 0 && pick[at] == pairs.size() - n + at) {
                    at--;
                }
                if (at < 0) {
                    return null;
                }
                pick[at]++;
                for (int i = at + 1; i < n; i++) {
                    pick[i] = pick[i - 1] + 1;
                }
            }
            return null;
        }

        int[] tableOf(int[][] pair) {
            int[] table = new int[size[0] * size[1]];
            for (int i = 0; i < size[0]; i++) {
                for (int j = 0; j < size[1]; j++) {
                    table[i * size[1] + j] = pair[0][i] * pair[1][j] % p;
                }
            }
            return table;
        }

        int[] slice(int k) {
            int[] slice = new int[size[0] * size[1]];
            for (int i = 0; i < size[0]; i++) {
                for (int j = 0; j < size[1]; j++) {
                    slice[i * size[1] + j] = t[i][j][k];
                }
            }
            return slice;
        }

        boolean span(List<int[][]> pairs, int[] pick) {
            int[][] alone = new int[pick.length][];
            int[][] both = new int[pick.length + size[2]][];
            for (int i = 0; i < pick.length; i++) {
                alone[i] = tableOf(pairs.get(pick[i]));
                both[i] = alone[i].clone();
            }
            for (int k = 0; k < size[2]; k++) {
                both[pick.length + k] = slice(k);
            }
            return rankOf(alone) == rankOf(both);
        }

        int seek(boolean write) {
            double all = (Math.pow(p, size[0]) - 1) / (p - 1) * ((Math.pow(p, size[1]) - 1) / (p - 1));
            if (all > 60.5) {
                return -3;
            }
            List<int[][]> pairs = new ArrayList<>();
            for (int[] u : shapes(size[0])) {
                for (int[] v : shapes(size[1])) {
                    pairs.add(new int[][] {u, v});
                }
            }
            for (int n = 0; n <= 4; n++) {
                int[] pick = firstPairs(pairs, n);
                if (pick != null) {
                    if (write) {
                        write(pairs, pick);
                    }
                    return n;
                }
            }
            return -5;
        }

        void write(List<int[][]> pairs, int[] pick) {
            times.clear();
            for (int at : pick) {
                times.add(new int[][] {pairs.get(at)[0].clone(), pairs.get(at)[1].clone(), new int[size[2]]});
            }
            for (int k = 0; k < size[2]; k++) {
                for (int told = 0; told < Math.pow(p, pick.length); told++) {
                    int[] by = untold(told, pick.length);
                    int[] sum = new int[size[0] * size[1]];
                    for (int s = 0; s < pick.length; s++) {
                        addTo(sum, by[s], tableOf(pairs.get(pick[s])));
                    }
                    if (Arrays.equals(sum, slice(k))) {
                        for (int s = 0; s < pick.length; s++) {
                            times.get(s)[2][k] = by[s];
                        }
                    }
                }
            }
        }

        int least() {
            return seek(false);
        }

        int find() {
            return seek(true);
        }

        int hand(int which, int i, int v) {
            if (which < 0 || which > 1 || i < 0 || i >= size[which] || v < 0 || v >= p) {
                return -1;
            }
            (which == 0 ? x : y)[i] = v;
            return 1;
        }

        int run(int how) {
            int[] z = new int[size[2]];
            if (how == 0) {
                for (int i = 0; i < size[0]; i++) {
                    for (int j = 0; j < size[1]; j++) {
                        addTo(z, x[i] * y[j], t[i][j]);
                    }
                }
                return told(z);
            }
            if (how != 1) {
                return -1;
            }
            for (int[][] time : times) {
                int ux = 0;
                for (int i = 0; i < size[0]; i++) {
                    ux += time[0][i] * x[i];
                }
                int vy = 0;
                for (int j = 0; j < size[1]; j++) {
                    vy += time[1][j] * y[j];
                }
                addTo(z, ux * vy, time[2]);
            }
            return told(z);
        }

        int sums(int which, int how) {
            if (which < 0 || which > 1 || how < 0 || how > 1) {
                return -1;
            }
            int[][] wide = new int[times.size()][];
            for (int n = 0; n < wide.length; n++) {
                wide[n] = Arrays.copyOf(times.get(n)[which], 60);
            }
            int sums = 0;
            int width = size[which];
            while (how == 1 && width < size[which] + 40) {
                int[] best = best(wide, width);
                if (best == null) {
                    break;
                }
                for (int[] row : wide) {
                    if (row[best[0]] != 0 && row[best[1]] == row[best[0]] * best[2] % p) {
                        row[width] = row[best[0]];
                        row[best[0]] = 0;
                        row[best[1]] = 0;
                    }
                }
                width++;
                sums++;
            }
            for (int[] row : wide) {
                sums += Math.max(0, (int) Arrays.stream(row).filter(v -> v != 0).count() - 1);
            }
            return sums;
        }

        int[] best(int[][] wide, int width) {
            int most = 1;
            int[] best = null;
            for (int a = 0; a < width; a++) {
                for (int b = a + 1; b < width; b++) {
                    for (int r = 1; r < p; r++) {
                        int count = 0;
                        for (int[] row : wide) {
                            if (row[a] != 0 && row[b] == r * row[a] % p) {
                                count++;
                            }
                        }
                        if (count > most) {
                            most = count;
                            best = new int[] {a, b, r};
                        }
                    }
                }
            }
            return best;
        }

        void copyTo(Model other) {
            other.p = p;
            other.size = size.clone();
            other.t = new int[size[0]][size[1]][];
            for (int i = 0; i < size[0]; i++) {
                for (int j = 0; j < size[1]; j++) {
                    other.t[i][j] = t[i][j].clone();
                }
            }
            other.times = new ArrayList<>();
            for (int[][] time : times) {
                other.times.add(new int[][] {time[0].clone(), time[1].clone(), time[2].clone()});
            }
            other.noHands();
        }

        int keep(int place) {
            if (place < 0 || place > 3) {
                return -1;
            }
            kept[place] = new Model();
            copyTo(kept[place]);
            return 1;
        }

        int back(int place) {
            if (place < 0 || place > 3) {
                return -1;
            }
            if (kept[place] == null) {
                return -4;
            }
            kept[place].copyTo(this);
            return 1;
        }

        int beside(int place) {
            if (place < 0 || place > 3) {
                return -1;
            }
            Model other = kept[place];
            if (other == null) {
                return -4;
            }
            int[] was = size;
            int[] both = {was[0] + other.size[0], was[1] + other.size[1], was[2] + other.size[2]};
            if (!nine(both)) {
                return -3;
            }
            if (times.size() + other.times.size() > 40) {
                return -2;
            }
            int[][][] wide = new int[both[0]][both[1]][both[2]];
            for (int i = 0; i < both[0]; i++) {
                for (int j = 0; j < both[1]; j++) {
                    for (int k = 0; k < both[2]; k++) {
                        wide[i][j][k] = Math.max(0, Math.max(at(i, j, k),
                                other.at(i - was[0], j - was[1], k - was[2])));
                    }
                }
            }
            List<int[][]> all = new ArrayList<>();
            for (int[][] time : times) {
                int[][] next = new int[3][];
                for (int which = 0; which < 3; which++) {
                    next[which] = Arrays.copyOf(time[which], both[which]);
                }
                all.add(next);
            }
            for (int[][] time : other.times) {
                int[][] next = new int[3][];
                for (int which = 0; which < 3; which++) {
                    next[which] = new int[both[which]];
                    System.arraycopy(time[which], 0, next[which], was[which], other.size[which]);
                }
                all.add(next);
            }
            size = both;
            t = wide;
            times = all;
            noHands();
            return times.size();
        }

        int[] kron(int[] a, int[] b) {
            int[] product = new int[a.length * b.length];
            for (int i = 0; i < a.length; i++) {
                for (int j = 0; j < b.length; j++) {
                    product[i * b.length + j] = a[i] * b[j] % p;
                }
            }
            return product;
        }

        int within(int place) {
            if (place < 0 || place > 3) {
                return -1;
            }
            Model other = kept[place];
            if (other == null) {
                return -4;
            }
            int[] in = other.size;
            int[] both = {size[0] * in[0], size[1] * in[1], size[2] * in[2]};
            if (!nine(both)) {
                return -3;
            }
            if (times.size() * other.times.size() > 40) {
                return -2;
            }
            int[][][] wide = new int[both[0]][both[1]][both[2]];
            for (int i = 0; i < both[0]; i++) {
                for (int j = 0; j < both[1]; j++) {
                    for (int k = 0; k < both[2]; k++) {
                        wide[i][j][k] = t[i / in[0]][j / in[1]][k / in[2]]
                                * other.t[i % in[0]][j % in[1]][k % in[2]] % p;
                    }
                }
            }
            List<int[][]> all = new ArrayList<>();
            for (int[][] mine : times) {
                for (int[][] its : other.times) {
                    all.add(new int[][] {kron(mine[0], its[0]), kron(mine[1], its[1]), kron(mine[2], its[2])});
                }
            }
            size = both;
            t = wide;
            times = all;
            noHands();
            return times.size();
        }
    }
}
