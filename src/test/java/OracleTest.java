import java.math.BigInteger;
import java.util.ArrayList;
import java.util.Arrays;
import java.util.List;
import java.util.Random;
import java.util.TreeSet;

/**
 * Frameworks by chance (with a fixed seed): every call's answer against the document's words, done the slow way
 * with whole numbers of any size, all subsets and all orders.
 */
public final class OracleTest {
    private static final int BAD = -2, NONE = -1;
    private static int wrong = 0;
    private static long asked = 0;

    private static void due(String call, int got, int want) {
        asked++;
        if (got != want) {
            wrong++;
            if (wrong <= 40) {
                System.out.println(call + " answered " + got + ", due is " + want);
            }
        }
    }

    public static void main(String[] args) {
        Random random = new Random(20261115L);
        for (int round = 0; round < 260; round++) {
            check(chance(random, round), random);
        }
        for (Model model : known()) {
            check(model, random);
        }
        farthest(random);
        System.out.println(asked + " answers asked, " + wrong + " not as due");
        if (wrong != 0) {
            System.exit(1);
        }
    }

    // ---- frameworks ----

    private static Model chance(Random random, int round) {
        int n = 1 + random.nextInt(7);
        Model model = new Model(n);
        int kind = random.nextInt(5);
        for (int v = 0; v < n; v++) {
            model.place[v] = chancePlace(random, kind);
        }
        int most = round % 20 == 0 ? 12 : 9;
        int wanted = random.nextInt(4) == 0 ? random.nextInt(most + 1) : most;
        List<int[]> pairs = shuffled(n, random);
        for (int i = 0; i < pairs.size() && i < wanted; i++) {
            model.bars.add(pairs.get(i));
        }
        signByChance(model, random);
        return model;
    }

    private static int[] chancePlace(Random random, int kind) {
        int[] p = new int[3];
        for (int way = 0; way < 3; way++) {
            switch (kind) {
                case 0: p[way] = random.nextInt(9) - 4; break;
                case 1: p[way] = random.nextInt(3) - 1; break;
                case 2: p[way] = random.nextInt(2); break;
                case 3: p[way] = way == 1 ? 2 : random.nextInt(9) - 4; break;
                default: p[way] = random.nextBoolean() ? 4 : -4; break;
            }
        }
        return p;
    }

    private static List<int[]> shuffled(int n, Random random) {
        List<int[]> pairs = new ArrayList<>();
        for (int a = 0; a < n; a++) {
            for (int b = a + 1; b < n; b++) {
                pairs.add(new int[] {a, b});
            }
        }
        java.util.Collections.shuffle(pairs, random);
        return pairs;
    }

    private static void signByChance(Model model, Random random) {
        int often = random.nextInt(4);
        for (int i = 0; i < model.bars.size(); i++) {
            model.sign[i] = random.nextInt(4) < often ? random.nextInt(3) - 1 : 0;
        }
    }

    private static List<Model> known() {
        List<Model> all = new ArrayList<>();
        // A square with both diagonals, as cables and struts, the right way and the wrong way.
        int[][] square = {{0, 0, 0}, {2, 0, 0}, {2, 2, 0}, {0, 2, 0}};
        int[][] squareBars = {{0, 1}, {1, 2}, {2, 3}, {0, 3}, {0, 2}, {1, 3}};
        all.add(model(square, squareBars, new int[] {1, 1, 1, 1, -1, -1}));
        all.add(model(square, squareBars, new int[] {1, 1, 1, 1, 1, -1}));
        all.add(model(square, squareBars, new int[] {-1, -1, -1, -1, 1, 1}));
        // K 3,3 on a conic (a hexagon) and off it.
        int[][] k33 = {{0, 3}, {0, 4}, {0, 5}, {1, 3}, {1, 4}, {1, 5}, {2, 3}, {2, 4}, {2, 5}};
        all.add(model(new int[][] {{-2, 1, 0}, {2, 1, 0}, {0, -3, 0}, {-2, -1, 0}, {2, -1, 0}, {0, 3, 0}}, k33, null));
        all.add(model(new int[][] {{-4, 0, 0}, {0, 4, 0}, {3, -3, 0}, {1, 1, 0}, {-2, -3, 0}, {4, 2, 0}}, k33, null));
        // The wheel, the prism with parallel and with skew rungs, K 5 in space.
        all.add(model(new int[][] {{0, 0, 1}, {3, 0, 0}, {1, 3, 0}, {-3, 1, 0}, {-2, -3, 0}, {2, -2, 0}},
                new int[][] {{0, 1}, {0, 2}, {0, 3}, {0, 4}, {0, 5}, {1, 2}, {2, 3}, {3, 4}, {4, 5}, {1, 5}}, null));
        int[][] prism = {{0, 1}, {1, 2}, {0, 2}, {3, 4}, {4, 5}, {3, 5}, {0, 3}, {1, 4}, {2, 5}};
        all.add(model(new int[][] {{0, 0, 0}, {2, 0, 0}, {1, 1, 0}, {0, 3, 0}, {2, 3, 0}, {1, 4, 0}}, prism, null));
        all.add(model(new int[][] {{0, 0, 0}, {2, 0, 0}, {1, 1, 0}, {-1, 4, 0}, {3, 3, 0}, {1, 2, 0}}, prism, null));
        int[][] k5 = {{0, 1}, {0, 2}, {0, 3}, {0, 4}, {1, 2}, {1, 3}, {1, 4}, {2, 3}, {2, 4}, {3, 4}};
        all.add(model(new int[][] {{0, 0, 0}, {4, 0, 0}, {0, 4, 0}, {0, 0, 4}, {1, 1, 1}}, k5,
                new int[] {1, 1, 1, -1, -1, -1, 1, -1, 1, 1}));
        all.add(model(new int[][] {{0, 0, 0}, {4, 0, 0}, {0, 4, 0}, {0, 0, 4}, {1, 1, 1}}, k5,
                new int[] {1, 1, 1, -1, 1, 1, -1, 1, -1, -1}));
        return all;
    }

    private static Model model(int[][] places, int[][] bars, int[] signs) {
        Model model = new Model(places.length);
        for (int v = 0; v < places.length; v++) {
            model.place[v] = places[v];
        }
        for (int i = 0; i < bars.length; i++) {
            model.bars.add(bars[i]);
            model.sign[i] = signs == null ? 0 : signs[i];
        }
        return model;
    }

    /** Seven JOINTS with the greatest differences and twelve BARS: the greatest numbers that can come up. */
    private static void farthest(Random random) {
        for (int round = 0; round < 6; round++) {
            Model model = new Model(7);
            for (int v = 0; v < 7; v++) {
                model.place[v] = new int[] {random.nextBoolean() ? 4 : -4, random.nextInt(9) - 4, 0};
            }
            model.bars.addAll(shuffled(7, random).subList(0, 12));
            signByChance(model, random);
            checkSort(model, 0, random);
        }
    }

    // ---- the comparison ----

    private static void check(Model model, Random random) {
        for (int sort = 0; sort < 3; sort++) {
            checkSort(model, sort, random);
        }
        RigidRanks x = model.make();
        int[] row = model.leastRow();
        for (int i = -1; i <= 7; i++) {
            due(model + " built(" + i + ")", x.built(i), row == null || i < 0 || i >= model.n ? NONE : row[i]);
        }
        due(model + " oneShape()", x.oneShape(), model.hasOneShape() ? 1 : 0);
    }

    private static void checkSort(Model model, int sort, Random random) {
        if (sort == 1 && model.n > 5) {
            checkRefused(model, model.make(), sort);
            return;
        }
        Asked x = new Asked(model);
        Words words = new Words(model, sort);
        String name = model + " sort " + sort + " ";
        int all = words.all;
        for (int set = 0; set <= all; set++) {
            due(name + "rank " + set, x.now().rank(sort, set), words.rank[set]);
            due(name + "closure " + set, x.now().closure(sort, set), words.closure(set));
        }
        due(name + "rank beyond", x.now().rank(sort, all + 1), BAD);
        due(name + "closure beyond", x.now().closure(sort, all + 1), BAD);
        due(name + "rank below", x.now().rank(sort, -1), BAD);
        checkPairs(name, words, x, random);
        checkKinds(name, words, x);
        checkPolynomial(name, words, x);
        if (sort < 2) {
            checkStresses(name, words, x);
            due(name + "holds", x.now().holds(sort), words.holds() ? 1 : 0);
        } else {
            due(name + "holds", x.now().holds(sort), BAD);
            due(name + "stressed", x.now().stressed(sort, all, 0), BAD);
        }
    }

    private static void checkRefused(Model model, RigidRanks x, int sort) {
        due(model + " space", x.rank(sort, 0), BAD);
        due(model + " space", x.closure(sort, 0), BAD);
        due(model + " space", x.implied(sort, 0, 1, 0), BAD);
        due(model + " space", x.rigid(sort), BAD);
        due(model + " space", x.lacks(sort), BAD);
        due(model + " space", x.spare(sort), BAD);
        due(model + " space", x.many(sort, 0), BAD);
        due(model + " space", x.told(sort, 0, 0), BAD);
        due(model + " space", x.coefficient(sort, 0, 0), BAD);
        due(model + " space", x.cluster(sort, 0), BAD);
        due(model + " space", x.stressed(sort, 0, 0), BAD);
        due(model + " space", x.holds(sort), BAD);
    }

    private static void checkPairs(String name, Words words, Asked x, Random random) {
        int n = words.model.n;
        for (int a = 0; a < n; a++) {
            for (int b = 0; b < n; b++) {
                for (int turn = 0; turn < 6; turn++) {
                    int set = turn == 0 ? words.all : random.nextInt(words.all + 1);
                    int want = a == b ? BAD : words.implies(a, b, set) ? 1 : 0;
                    due(name + "implied " + a + " " + b + " " + set, x.now().implied(words.sort, a, b, set), want);
                }
            }
        }
        due(name + "lacks", x.now().lacks(words.sort), words.lacks());
        due(name + "rigid", x.now().rigid(words.sort), words.isRigid() ? 1 : 0);
        int spare = 0;
        for (int i = 0; i < words.m; i++) {
            if (words.rank[words.all & ~(1 << i)] == words.rank[words.all]) {
                spare |= 1 << i;
            }
        }
        due(name + "spare", x.now().spare(words.sort), spare);
        List<Integer> clusters = words.clusters();
        due(name + "cluster", x.now().cluster(words.sort, -1), NONE);
        for (int k = 0; k <= clusters.size(); k++) {
            due(name + "cluster " + k, x.now().cluster(words.sort, k), k < clusters.size() ? clusters.get(k) : NONE);
        }
    }

    private static void checkKinds(String name, Words words, Asked x) {
        for (int what = -1; what <= 7; what++) {
            if (what < 0 || what > 6) {
                due(name + "many " + what, x.now().many(words.sort, what), BAD);
                due(name + "told " + what, x.now().told(words.sort, what, 0), BAD);
                continue;
            }
            List<Integer> sets = words.kind(what);
            due(name + "many " + what, x.now().many(words.sort, what), sets.size());
            due(name + "told " + what, x.now().told(words.sort, what, -1), NONE);
            due(name + "told " + what, x.now().told(words.sort, what, sets.size()), NONE);
            int step = 1 + sets.size() / 60;
            for (int k = 0; k < sets.size(); k += step) {
                due(name + "told " + what + " " + k, x.now().told(words.sort, what, k), sets.get(k));
            }
        }
    }

    private static void checkPolynomial(String name, Words words, Asked x) {
        int[][] polynomial = words.polynomial();
        for (int i = -1; i <= 14; i++) {
            for (int j = -1; j <= 14; j++) {
                int want = i < 0 || j < 0 || i > 13 || j > 13 ? 0 : polynomial[i][j];
                due(name + "coefficient " + i + " " + j, x.now().coefficient(words.sort, i, j), want);
            }
        }
    }

    private static void checkStresses(String name, Words words, Asked x) {
        TreeSet<Integer> circuits = new TreeSet<>(words.kind(2));
        int done = 0;
        for (int set = 0; set <= words.all; set++) {
            if (!circuits.contains(set)) {
                due(name + "stressed " + set, x.now().stressed(words.sort, set, 0), BAD);
                continue;
            }
            if (done++ > 150) {
                continue;
            }
            int[] signs = words.stressSigns(set);
            for (int bar = -1; bar <= words.m; bar++) {
                int want = bar < 0 || bar >= words.m ? BAD : signs[bar] + 1;
                due(name + "stressed " + set + " " + bar, x.now().stressed(words.sort, set, bar), want);
            }
        }
        due(name + "stressed beyond", x.now().stressed(words.sort, words.all + 1, 0), BAD);
    }

    /** Objects of one framework: a new one takes over before the last has been asked too often. */
    private static final class Asked {
        private static final int MOST_CALLS = 470;
        private final Model model;
        private RigidRanks object;
        private int calls = 0;

        Asked(Model model) {
            this.model = model;
        }

        RigidRanks now() {
            if (calls % MOST_CALLS == 0) {
                object = model.make();
            }
            calls++;
            return object;
        }
    }

    // ---- a framework ----

    private static final class Model {
        final int n;
        final int[][] place;
        final List<int[]> bars = new ArrayList<>();
        final int[] sign = new int[12];

        Model(int n) {
            this.n = n;
            this.place = new int[n][3];
        }

        RigidRanks make() {
            RigidRanks x = new RigidRanks();
            x.begin(n);
            for (int v = 0; v < n; v++) {
                x.joint(v, place[v][0], place[v][1], place[v][2]);
            }
            for (int i = 0; i < bars.size(); i++) {
                int[] bar = bars.get(i);
                due(this + " bar", i % 2 == 0 ? x.bar(bar[0], bar[1]) : x.bar(bar[1], bar[0]), i);
                x.sign(i, sign[i]);
            }
            return x;
        }

        boolean joined(int a, int b) {
            for (int[] bar : bars) {
                if (bar[0] == a && bar[1] == b || bar[0] == b && bar[1] == a) {
                    return true;
                }
            }
            return false;
        }

        int[] leastRow() {
            int[] row = new int[n];
            for (int i = 0; i < n; i++) {
                row[i] = i;
            }
            do {
                if (isBuiltBy(row)) {
                    return row;
                }
            } while (nextOrder(row));
            return null;
        }

        private boolean isBuiltBy(int[] row) {
            for (int i = 1; i < n; i++) {
                int ahead = 0;
                for (int j = 0; j < i; j++) {
                    ahead += joined(row[i], row[j]) ? 1 : 0;
                }
                if (ahead != (i == 1 ? 1 : 2)) {
                    return false;
                }
            }
            return true;
        }

        private static boolean nextOrder(int[] row) {
            int i = row.length - 2;
            while (i >= 0 && row[i] > row[i + 1]) {
                i--;
            }
            if (i < 0) {
                return false;
            }
            int j = row.length - 1;
            while (row[j] < row[i]) {
                j--;
            }
            int kept = row[i];
            row[i] = row[j];
            row[j] = kept;
            Arrays.sort(row, i + 1, row.length);
            return true;
        }

        boolean hasOneShape() {
            if (n <= 3 && bars.size() == n * (n - 1) / 2) {
                return true;
            }
            Words words = new Words(this, 2);
            for (int i = 0; i < words.m; i++) {
                if (words.rank[words.all & ~(1 << i)] != words.rank[words.all]) {
                    return false;
                }
            }
            if (!words.isRigid()) {
                return false;
            }
            for (int a = 0; a < n; a++) {
                for (int b = a + 1; b < n; b++) {
                    if (!hangs(a, b)) {
                        return false;
                    }
                }
            }
            return true;
        }

        private boolean hangs(int without, int orWithout) {
            int[] name = new int[n];
            for (int v = 0; v < n; v++) {
                name[v] = v;
            }
            for (int round = 0; round < n; round++) {
                for (int[] bar : bars) {
                    boolean gone = bar[0] == without || bar[1] == without || bar[0] == orWithout || bar[1] == orWithout;
                    if (!gone) {
                        int least = Math.min(name[bar[0]], name[bar[1]]);
                        name[bar[0]] = least;
                        name[bar[1]] = least;
                    }
                }
            }
            TreeSet<Integer> names = new TreeSet<>();
            for (int v = 0; v < n; v++) {
                if (v != without && v != orWithout) {
                    names.add(name[v]);
                }
            }
            return names.size() <= 1;
        }

        @Override
        public String toString() {
            StringBuilder text = new StringBuilder("n " + n + " at " + Arrays.deepToString(place) + " bars ");
            for (int i = 0; i < bars.size(); i++) {
                text.append(bars.get(i)[0]).append('-').append(bars.get(i)[1]).append('(').append(sign[i]).append(") ");
            }
            return text.toString();
        }
    }

    // ---- the document's words, the slow way ----

    private static final class Words {
        final Model model;
        final int sort;
        final int m;
        final int all;
        final int[] rank;

        Words(Model model, int sort) {
            this.model = model;
            this.sort = sort;
            this.m = model.bars.size();
            this.all = (1 << m) - 1;
            this.rank = sort == 2 ? ranksAnywhere(model.bars) : new int[all + 1];
            for (int set = 0; sort < 2 && set <= all; set++) {
                rank[set] = rankOfRows(pairsOf(set));
            }
        }

        List<int[]> pairsOf(int set) {
            List<int[]> pairs = new ArrayList<>();
            for (int i = 0; i < m; i++) {
                if ((set >> i & 1) == 1) {
                    pairs.add(model.bars.get(i));
                }
            }
            return pairs;
        }

        /** INDEPENDENT by its definition, over all subsets; THE RANK by looking at all subsets again. */
        static int[] ranksAnywhere(List<int[]> pairs) {
            int sets = 1 << pairs.size();
            boolean[] small = new boolean[sets];
            for (int set = 1; set < sets; set++) {
                int joints = 0;
                for (int i = 0; i < pairs.size(); i++) {
                    if ((set >> i & 1) == 1) {
                        joints |= 1 << pairs.get(i)[0] | 1 << pairs.get(i)[1];
                    }
                }
                small[set] = Integer.bitCount(set) <= 2 * Integer.bitCount(joints) - 3;
            }
            boolean[] independent = new boolean[sets];
            for (int set = 0; set < sets; set++) {
                independent[set] = true;
                for (int sub = set; sub > 0; sub = (sub - 1) & set) {
                    independent[set] &= small[sub];
                }
            }
            int[] ranks = new int[sets];
            for (int set = 0; set < sets; set++) {
                for (int sub = set; sub > 0; sub = (sub - 1) & set) {
                    if (independent[sub]) {
                        ranks[set] = Math.max(ranks[set], Integer.bitCount(sub));
                    }
                }
            }
            return ranks;
        }

        BigInteger[] row(int[] pair) {
            int ways = sort == 0 ? 2 : 3;
            BigInteger[] row = new BigInteger[model.n * ways];
            Arrays.fill(row, BigInteger.ZERO);
            for (int way = 0; way < ways; way++) {
                int difference = model.place[pair[0]][way] - model.place[pair[1]][way];
                row[pair[0] * ways + way] = BigInteger.valueOf(difference);
                row[pair[1] * ways + way] = BigInteger.valueOf(-difference);
            }
            return row;
        }

        int rankOfRows(List<int[]> pairs) {
            List<BigInteger[]> rows = new ArrayList<>();
            for (int[] pair : pairs) {
                rows.add(row(pair));
            }
            int found = 0;
            int columns = rows.isEmpty() ? 0 : rows.get(0).length;
            for (int c = 0; c < columns; c++) {
                int pivot = found;
                while (pivot < rows.size() && rows.get(pivot)[c].signum() == 0) {
                    pivot++;
                }
                if (pivot == rows.size()) {
                    continue;
                }
                BigInteger[] lead = rows.get(pivot);
                rows.set(pivot, rows.get(found));
                rows.set(found, lead);
                for (int r = found + 1; r < rows.size(); r++) {
                    BigInteger[] row = rows.get(r);
                    BigInteger times = row[c];
                    for (int d = 0; times.signum() != 0 && d < columns; d++) {
                        row[d] = row[d].multiply(lead[c]).subtract(lead[d].multiply(times));
                    }
                }
                found++;
            }
            return found;
        }

        int rankOfPairs(List<int[]> pairs) {
            if (sort < 2) {
                return rankOfRows(pairs);
            }
            int[] ranks = ranksAnywhere(pairs);
            return ranks[ranks.length - 1];
        }

        boolean implies(int a, int b, int set) {
            List<int[]> pairs = pairsOf(set);
            for (int[] pair : pairs) {
                if (pair[0] == a && pair[1] == b || pair[0] == b && pair[1] == a) {
                    return true;
                }
            }
            if (sort == 2) {
                // Only the INDEPENDENT ones are kept, so that the subsets stay few.
                pairs = independentAmong(pairs);
            }
            int before = rankOfPairs(pairs);
            pairs.add(new int[] {a, b});
            return rankOfPairs(pairs) == before;
        }

        List<int[]> independentAmong(List<int[]> pairs) {
            List<int[]> kept = new ArrayList<>();
            for (int[] pair : pairs) {
                kept.add(pair);
                if (rankOfPairs(kept) < kept.size()) {
                    kept.remove(kept.size() - 1);
                }
            }
            return kept;
        }

        int closure(int set) {
            int closed = 0;
            for (int i = 0; i < m; i++) {
                if (rank[set | 1 << i] == rank[set]) {
                    closed |= 1 << i;
                }
            }
            return closed;
        }

        boolean isRigid() {
            for (int a = 0; a < model.n; a++) {
                for (int b = a + 1; b < model.n; b++) {
                    if (!implies(a, b, all)) {
                        return false;
                    }
                }
            }
            return true;
        }

        int lacks() {
            List<int[]> kept = independentAmong(pairsOf(all));
            int before = kept.size();
            for (int b = model.n - 1; b > 0; b--) {
                for (int a = 0; a < b; a++) {
                    kept.add(new int[] {a, b});
                    if (rankOfPairs(kept) < kept.size()) {
                        kept.remove(kept.size() - 1);
                    }
                }
            }
            return kept.size() - before;
        }

        List<Integer> clusters() {
            boolean[][] linked = new boolean[model.n][model.n];
            for (int a = 0; a < model.n; a++) {
                for (int b = 0; b < model.n; b++) {
                    linked[a][b] = a == b || implies(Math.min(a, b), Math.max(a, b), all);
                }
            }
            boolean[] fine = new boolean[1 << model.n];
            for (int some = 0; some < fine.length; some++) {
                fine[some] = Integer.bitCount(some) >= 2;
                for (int a = 0; a < model.n; a++) {
                    for (int b = 0; b < model.n; b++) {
                        if ((some >> a & some >> b & 1) == 1 && !linked[a][b]) {
                            fine[some] = false;
                        }
                    }
                }
            }
            List<Integer> found = new ArrayList<>();
            for (int some = 0; some < fine.length; some++) {
                boolean most = fine[some];
                for (int v = 0; v < model.n; v++) {
                    if ((some >> v & 1) == 0 && fine[some | 1 << v]) {
                        most = false;
                    }
                }
                if (most) {
                    found.add(some);
                }
            }
            return found;
        }

        boolean isIndependent(int set) {
            return rank[set] == Integer.bitCount(set);
        }

        boolean isCircuit(int set) {
            if (isIndependent(set)) {
                return false;
            }
            for (int i = 0; i < m; i++) {
                if ((set >> i & 1) == 1 && !isIndependent(set & ~(1 << i))) {
                    return false;
                }
            }
            return true;
        }

        List<Integer> kind(int what) {
            if (what == 4) {
                return parts();
            }
            if (what == 6) {
                return leastMeeting();
            }
            List<Integer> found = new ArrayList<>();
            for (int set = 0; set <= all; set++) {
                boolean spans = rank[set] == rank[all];
                boolean fits = what == 0 ? isIndependent(set) : what == 1 ? isIndependent(set) && spans
                        : what == 2 ? isCircuit(set) : what == 3 ? spans : closure(set) == set;
                if (fits) {
                    found.add(set);
                }
            }
            return found;
        }

        List<Integer> parts() {
            int[] part = new int[m];
            for (int i = 0; i < m; i++) {
                part[i] = 1 << i;
            }
            for (int circuit : kind(2)) {
                int joined = 0;
                for (int i = 0; i < m; i++) {
                    if ((part[i] & circuit) != 0) {
                        joined |= part[i];
                    }
                }
                for (int i = 0; i < m; i++) {
                    if ((joined >> i & 1) == 1) {
                        part[i] = joined;
                    }
                }
            }
            List<Integer> found = new ArrayList<>();
            for (int i = 0; i < m; i++) {
                if (Integer.numberOfTrailingZeros(part[i]) == i) {
                    found.add(part[i]);
                }
            }
            return found;
        }

        List<Integer> leastMeeting() {
            List<Integer> bases = kind(1);
            boolean[] meets = new boolean[all + 1];
            for (int set = 0; set <= all; set++) {
                meets[set] = true;
                for (int basis : bases) {
                    meets[set] &= (basis & set) != 0;
                }
            }
            List<Integer> found = new ArrayList<>();
            for (int set = 0; set <= all; set++) {
                boolean least = meets[set];
                for (int sub = set; least && sub > 0;) {
                    sub = (sub - 1) & set;
                    least = !meets[sub];
                }
                if (least) {
                    found.add(set);
                }
            }
            return found;
        }

        int[][] polynomial() {
            int[][] sum = new int[14][14];
            for (int set = 0; set <= all; set++) {
                long[] x = power(rank[all] - rank[set]);
                long[] y = power(Integer.bitCount(set) - rank[set]);
                for (int i = 0; i < x.length; i++) {
                    for (int j = 0; j < y.length; j++) {
                        sum[i][j] += (int) (x[i] * y[j]);
                    }
                }
            }
            return sum;
        }

        private static long[] power(int p) {
            long[] now = {1};
            for (int i = 0; i < p; i++) {
                long[] next = new long[now.length + 1];
                for (int j = 0; j < now.length; j++) {
                    next[j + 1] += now[j];
                    next[j] -= now[j];
                }
                now = next;
            }
            return now;
        }

        /** The STRESS of a CIRCUIT with the least BAR'S 1, by solving for the others. */
        int[] stressSigns(int circuit) {
            List<Integer> bars = new ArrayList<>();
            for (int i = 0; i < m; i++) {
                if ((circuit >> i & 1) == 1) {
                    bars.add(i);
                }
            }
            int k = bars.size();
            int columns = row(model.bars.get(0)).length;
            Fraction[][] a = new Fraction[columns][k];
            for (int j = 0; j < k; j++) {
                BigInteger[] row = row(model.bars.get(bars.get(j)));
                for (int c = 0; c < columns; c++) {
                    // The least BAR goes last: as the one that is free.
                    a[c][k - 1 - j] = new Fraction(row[c], BigInteger.ONE);
                }
            }
            int found = Fraction.reduce(a, k - 1);
            if (found != k - 1) {
                throw new IllegalStateException("not a circuit");
            }
            int[] signs = new int[m];
            signs[bars.get(0)] = 1;
            for (int r = 0; r < found; r++) {
                signs[bars.get(k - 1 - r)] = -a[r][k - 1].signum();
            }
            return signs;
        }

        /** RIGID, and a STRESS that is 1 at least on CABLES, -1 at most on STRUTS, by the simplex with Bland's rule. */
        boolean holds() {
            if (!isRigid()) {
                return false;
            }
            if (m == 0) {
                return true;
            }
            int columns = row(model.bars.get(0)).length;
            List<BigInteger[]> unknowns = new ArrayList<>();
            BigInteger[] right = new BigInteger[columns];
            Arrays.fill(right, BigInteger.ZERO);
            for (int i = 0; i < m; i++) {
                BigInteger[] row = row(model.bars.get(i));
                BigInteger[] turned = new BigInteger[columns];
                for (int c = 0; c < columns; c++) {
                    turned[c] = row[c].negate();
                    if (model.sign[i] != 0) {
                        right[c] = right[c].subtract(row[c].multiply(BigInteger.valueOf(model.sign[i])));
                    }
                }
                if (model.sign[i] >= 0) {
                    unknowns.add(row);
                }
                if (model.sign[i] <= 0) {
                    unknowns.add(turned);
                }
            }
            return Fraction.hasSolution(unknowns, right);
        }
    }

    private static final class Fraction {
        static final Fraction ZERO = new Fraction(BigInteger.ZERO, BigInteger.ONE);
        static final Fraction ONE = new Fraction(BigInteger.ONE, BigInteger.ONE);
        final BigInteger up;
        final BigInteger down;

        Fraction(BigInteger up, BigInteger down) {
            BigInteger g = up.gcd(down);
            if (down.signum() < 0) {
                g = g.negate();
            }
            this.up = up.divide(g);
            this.down = down.divide(g);
        }

        int signum() {
            return up.signum();
        }

        Fraction minus(Fraction o) {
            return new Fraction(up.multiply(o.down).subtract(o.up.multiply(down)), down.multiply(o.down));
        }

        Fraction times(Fraction o) {
            return new Fraction(up.multiply(o.up), down.multiply(o.down));
        }

        Fraction over(Fraction o) {
            return new Fraction(up.multiply(o.down), down.multiply(o.up));
        }

        /** Gauss and Jordan over the first columns; row r gets column r's pivot. How many pivots there were. */
        static int reduce(Fraction[][] a, int columns) {
            int found = 0;
            for (int c = 0; c < columns; c++) {
                int pivot = found;
                while (pivot < a.length && a[pivot][c].signum() == 0) {
                    pivot++;
                }
                if (pivot == a.length) {
                    return -1;
                }
                Fraction[] kept = a[pivot];
                a[pivot] = a[found];
                a[found] = kept;
                clearColumn(a, found, c);
                found++;
            }
            return found;
        }

        private static void clearColumn(Fraction[][] a, int row, int c) {
            Fraction lead = a[row][c];
            for (int d = 0; d < a[row].length; d++) {
                a[row][d] = a[row][d].over(lead);
            }
            for (int r = 0; r < a.length; r++) {
                Fraction times = a[r][c];
                if (r != row && times.signum() != 0) {
                    for (int d = 0; d < a[r].length; d++) {
                        a[r][d] = a[r][d].minus(times.times(a[row][d]));
                    }
                }
            }
        }

        /** Whether some numbers, none below 0, times the unknowns' columns make the right side. */
        static boolean hasSolution(List<BigInteger[]> unknowns, BigInteger[] right) {
            int rows = right.length;
            int count = unknowns.size();
            // The last row is the sum of all others: what the helpers still carry.
            Fraction[][] a = new Fraction[rows + 1][count + rows + 1];
            int[] basic = new int[rows];
            for (Fraction[] row : a) {
                Arrays.fill(row, ZERO);
            }
            for (int r = 0; r < rows; r++) {
                BigInteger turn = BigInteger.valueOf(right[r].signum() < 0 ? -1 : 1);
                for (int u = 0; u < count; u++) {
                    a[r][u] = new Fraction(unknowns.get(u)[r].multiply(turn), BigInteger.ONE);
                    a[rows][u] = a[rows][u].minus(ZERO.minus(a[r][u]));
                }
                a[r][count + r] = ONE;
                a[r][count + rows] = new Fraction(right[r].multiply(turn), BigInteger.ONE);
                a[rows][count + rows] = a[rows][count + rows].minus(ZERO.minus(a[r][count + rows]));
                basic[r] = count + r;
            }
            while (true) {
                int enters = 0;
                while (enters < count && a[rows][enters].signum() <= 0) {
                    enters++;
                }
                if (enters == count) {
                    return a[rows][count + rows].signum() == 0;
                }
                int leaves = -1;
                for (int r = 0; r < rows; r++) {
                    if (a[r][enters].signum() > 0) {
                        int less = leaves < 0 ? -1 : a[r][count + rows].over(a[r][enters])
                                .minus(a[leaves][count + rows].over(a[leaves][enters])).signum();
                        if (less < 0 || less == 0 && basic[r] < basic[leaves]) {
                            leaves = r;
                        }
                    }
                }
                clearColumn(a, leaves, enters);
                basic[leaves] = enters;
            }
        }
    }
}
