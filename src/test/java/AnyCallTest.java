import java.util.Random;

/**
 * Calls by chance (with a fixed seed), many with wrong arguments: what is kept against a plain model, refusals,
 * that nothing is thrown, and that the answers after many changes are those of a new object in the same state.
 */
public final class AnyCallTest {
    private static final int NONE = -1, BAD = -2, FULL = -3, THERE = -4;
    private static final int[] ODD = {Integer.MIN_VALUE, -4097, -6, -5, -3, -2, -1, 7, 8, 12, 13, 31, 32, 33, 63, 4095,
        4096, 65536, Integer.MAX_VALUE};
    private static int wrong = 0;
    private static long asked = 0;

    private static int n;
    private static int bars;
    private static final int[][] PLACE = new int[7][3];
    private static final int[][] ENDS = new int[12][2];
    private static final int[] SIGN = new int[12];

    private static void due(String call, int got, int want) {
        asked++;
        if (got != want) {
            wrong++;
            if (wrong < 40) {
                System.out.println(call + " answered " + got + ", due is " + want);
            }
        }
    }

    public static void main(String[] args) {
        for (int run = 0; run < 520; run++) {
            Random random = new Random(run);
            RigidRanks x = new RigidRanks();
            forget(1);
            // A step asks twice at most, and an object may be asked 512 times.
            for (int call = 0; call < 256; call++) {
                step(x, random);
            }
        }
        System.out.println(asked + " answers asked, " + wrong + " not as due");
        if (wrong != 0) {
            System.exit(1);
        }
    }

    private static void forget(int joints) {
        n = joints;
        bars = 0;
        for (int[] place : PLACE) {
            place[0] = 0;
            place[1] = 0;
            place[2] = 0;
        }
    }

    private static int number(Random random, int below) {
        return random.nextInt(12) == 0 ? ODD[random.nextInt(ODD.length)] : random.nextInt(Math.max(below, 1));
    }

    private static void step(RigidRanks x, Random random) {
        switch (random.nextInt(40)) {
            case 0: begin(x, random.nextInt(3) == 0 ? number(random, 8) : 5 + random.nextInt(3)); break;
            case 1: case 2: case 3: case 4: case 5: case 6:
                joint(x, number(random, n), number(random, 9) - 4, number(random, 9) - 4, number(random, 9) - 4); break;
            case 7: case 8: case 9: case 10: case 11: case 12: case 13: case 14:
                bar(x, number(random, n), number(random, n)); break;
            case 15: unbar(x); break;
            case 16: case 17: case 18: sign(x, number(random, bars), number(random, 3) - 1); break;
            case 19: count(x, number(random, 4)); break;
            case 20: end(x, number(random, bars), number(random, 2)); break;
            case 21: at(x, number(random, n), number(random, 3)); break;
            default: ask(x, random); break;
        }
    }

    private static boolean in(int v, int from, int to) {
        return v >= from && v <= to;
    }

    private static void begin(RigidRanks x, int joints) {
        due("begin " + joints, x.begin(joints), in(joints, 1, 7) ? n : BAD);
        if (in(joints, 1, 7)) {
            forget(joints);
        }
    }

    private static void joint(RigidRanks x, int v, int a, int b, int c) {
        boolean fine = in(v, 0, n - 1) && in(a, -4, 4) && in(b, -4, 4) && in(c, -4, 4);
        boolean moves = fine && (PLACE[v][0] != a || PLACE[v][1] != b || PLACE[v][2] != c);
        due("joint " + v, x.joint(v, a, b, c), !fine ? BAD : moves ? 1 : 0);
        if (fine) {
            PLACE[v][0] = a;
            PLACE[v][1] = b;
            PLACE[v][2] = c;
        }
    }

    private static void bar(RigidRanks x, int a, int b) {
        int want = bars;
        if (bars == 12) {
            want = FULL;
        }
        for (int i = 0; i < bars; i++) {
            if (ENDS[i][0] == Math.min(a, b) && ENDS[i][1] == Math.max(a, b)) {
                want = THERE;
            }
        }
        if (!in(a, 0, n - 1) || !in(b, 0, n - 1) || a == b) {
            want = BAD;
        }
        due("bar " + a + " " + b, x.bar(a, b), want);
        if (want >= 0) {
            ENDS[bars][0] = Math.min(a, b);
            ENDS[bars][1] = Math.max(a, b);
            SIGN[bars] = 0;
            bars++;
        }
    }

    private static void unbar(RigidRanks x) {
        due("unbar", x.unbar(), bars == 0 ? NONE : bars - 1);
        bars = Math.max(bars - 1, 0);
    }

    private static void sign(RigidRanks x, int bar, int s) {
        boolean fine = in(bar, 0, bars - 1) && in(s, -1, 1);
        due("sign " + bar + " " + s, x.sign(bar, s), fine ? SIGN[bar] + 1 : BAD);
        if (fine) {
            SIGN[bar] = s;
        }
    }

    private static void count(RigidRanks x, int what) {
        int cables = 0;
        int struts = 0;
        for (int i = 0; i < bars; i++) {
            cables |= SIGN[i] == 1 ? 1 << i : 0;
            struts |= SIGN[i] == -1 ? 1 << i : 0;
        }
        int want = what == 0 ? n : what == 1 ? bars : what == 2 ? cables : what == 3 ? struts : BAD;
        due("count " + what, x.count(what), want);
    }

    private static void end(RigidRanks x, int bar, int which) {
        boolean fine = in(bar, 0, bars - 1) && in(which, 0, 1);
        due("end " + bar + " " + which, x.end(bar, which), fine ? ENDS[bar][which] : BAD);
    }

    private static void at(RigidRanks x, int v, int way) {
        due("at " + v + " " + way, x.at(v, way), in(v, 0, n - 1) && in(way, 0, 2) ? PLACE[v][way] : BAD);
    }

    private static RigidRanks anew() {
        RigidRanks x = new RigidRanks();
        x.begin(n);
        for (int v = 0; v < n; v++) {
            x.joint(v, PLACE[v][0], PLACE[v][1], PLACE[v][2]);
        }
        for (int i = 0; i < bars; i++) {
            x.bar(ENDS[i][1], ENDS[i][0]);
            x.sign(i, SIGN[i]);
        }
        return x;
    }

    private static void ask(RigidRanks x, Random random) {
        RigidRanks y = anew();
        int which = random.nextInt(14);
        int sort = number(random, 3);
        int set = number(random, 1 << bars);
        int a = number(random, n);
        int b = number(random, n);
        int k = number(random, 20);
        int what = number(random, 7);
        int got = query(x, which, sort, set, a, b, k * 8 + what);
        due("query " + which + " of sort " + sort, got, query(y, which, sort, set, a, b, k * 8 + what));
        boolean badSort = !in(sort, 0, 2) || sort == 1 && n > 5;
        boolean badSet = !in(set, 0, (1 << bars) - 1);
        if (which < 12 && badSort || which < 3 && badSet) {
            due("query " + which + " refused", got, BAD);
        }
    }

    private static int query(RigidRanks x, int which, int sort, int set, int a, int b, int both) {
        int k = both / 8;
        int what = both % 8;
        switch (which) {
            case 0: return x.rank(sort, set);
            case 1: return x.closure(sort, set);
            case 2: return x.implied(sort, a, b, set);
            case 3: return x.rigid(sort);
            case 4: return x.lacks(sort);
            case 5: return x.spare(sort);
            case 6: return x.many(sort, what);
            case 7: return x.told(sort, what, k);
            case 8: return x.coefficient(sort, a, b);
            case 9: return x.cluster(sort, k);
            case 10: return x.stressed(sort, k % 2 == 0 ? x.told(sort, 2, b) : set, a);
            case 11: return x.holds(sort);
            case 12: return x.built(a);
            default: return x.oneShape();
        }
    }
}
