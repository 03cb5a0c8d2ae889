/** For each promise of the document: ordinary inputs, its edges and wrong inputs, with answers found by hand. */
public final class PromiseTest {
    private static final int PLANE = 0, SPACE = 1, ANYWHERE = 2;
    private static final int NONE = -1, BAD = -2, FULL = -3, THERE = -4;
    private static final int LEAST = Integer.MIN_VALUE, MOST = Integer.MAX_VALUE;
    private static final int PROMISES = 23;
    private static final int[] ASKED = new int[PROMISES + 1];
    private static int wrong = 0;
    private static int asked = 0;

    private static void due(int promise, String what, int got, int want) {
        asked++;
        ASKED[promise]++;
        if (got != want) {
            wrong++;
            System.out.println("promise " + promise + ": " + what + " answered " + got + ", due is " + want);
        }
    }

    public static void main(String[] args) {
        newObject();
        begin();
        joint();
        bar();
        unbar();
        sign();
        count();
        end();
        at();
        rank();
        closure();
        implied();
        rigid();
        lacks();
        spare();
        many();
        told();
        coefficient();
        cluster();
        stressed();
        holds();
        built();
        oneShape();
        badSorts();
        everyPromise();
        System.out.println(asked + " answers asked, " + wrong + " not as due");
        if (wrong != 0) {
            System.exit(1);
        }
    }

    private static void everyPromise() {
        for (int promise = 1; promise <= PROMISES; promise++) {
            if (ASKED[promise] == 0) {
                wrong++;
                System.out.println("promise " + promise + " has no test");
            }
        }
    }

    // ---- frameworks ----

    private static RigidRanks framework(int n, int[][] places, int[][] bars) {
        RigidRanks x = new RigidRanks();
        x.begin(n);
        for (int v = 0; places != null && v < n; v++) {
            x.joint(v, places[v][0], places[v][1], places[v].length > 2 ? places[v][2] : 0);
        }
        for (int[] bar : bars) {
            x.bar(bar[0], bar[1]);
        }
        return x;
    }

    /** Four sides as BARS 0 .. 3, two diagonals as 4 and 5; one CIRCUIT in the PLANE. */
    private static RigidRanks square() {
        return framework(4, new int[][] {{0, 0}, {2, 0}, {2, 2}, {0, 2}},
                new int[][] {{0, 1}, {1, 2}, {2, 3}, {0, 3}, {0, 2}, {1, 3}});
    }

    private static final int[][] K33 = {{0, 3}, {0, 4}, {0, 5}, {1, 3}, {1, 4}, {1, 5}, {2, 3}, {2, 4}, {2, 5}};

    /** All on the curve 2 x x + y y = 9, so that there is a STRESS in the PLANE. */
    private static RigidRanks k33OnCurve() {
        return framework(6, new int[][] {{-2, 1}, {2, 1}, {0, -3}, {-2, -1}, {2, -1}, {0, 3}}, K33);
    }

    private static RigidRanks twoTriangles() {
        return framework(5, new int[][] {{0, 0}, {2, 0}, {1, 2}, {3, 3}, {-1, 4}},
                new int[][] {{0, 1}, {1, 2}, {0, 2}, {2, 3}, {3, 4}, {2, 4}});
    }

    private static RigidRanks tetrahedron() {
        return framework(4, new int[][] {{0, 0, 0}, {1, 0, 0}, {0, 1, 0}, {0, 0, 1}},
                new int[][] {{0, 1}, {0, 2}, {0, 3}, {1, 2}, {1, 3}, {2, 3}});
    }

    /** Two JOINTS at one place, with BAR 0 between them, and a third one elsewhere. */
    private static RigidRanks onePlace() {
        return framework(3, new int[][] {{1, 1, 1}, {1, 1, 1}, {3, 1, 1}}, new int[][] {{0, 1}, {0, 2}, {1, 2}});
    }

    private static RigidRanks onLine() {
        return framework(3, new int[][] {{0, 0}, {1, 0}, {3, 0}}, new int[][] {{0, 1}, {1, 2}});
    }

    // ---- promises 1 to 9: what is there ----

    private static void newObject() {
        RigidRanks x = new RigidRanks();
        due(1, "joints", x.count(0), 1);
        due(1, "bars", x.count(1), 0);
        due(1, "cables", x.count(2), 0);
        due(1, "struts", x.count(3), 0);
        for (int way = 0; way < 3; way++) {
            due(1, "at", x.at(0, way), 0);
        }
        due(1, "one joint only", x.at(1, 0), BAD);
    }

    private static void begin() {
        RigidRanks x = square();
        x.sign(0, 1);
        for (int n : new int[] {0, 8, -1, LEAST, MOST}) {
            due(2, "begin(" + n + ")", x.begin(n), BAD);
        }
        due(2, "refused, joints stay", x.count(0), 4);
        due(2, "refused, bars stay", x.count(1), 6);
        due(2, "begin(7)", x.begin(7), 4);
        due(2, "joints", x.count(0), 7);
        due(2, "bars are gone", x.count(1), 0);
        due(2, "cables are gone", x.count(2), 0);
        for (int v = 0; v < 7; v++) {
            due(2, "place", x.at(v, 0) + x.at(v, 1) + x.at(v, 2), 0);
        }
        due(2, "begin(1)", x.begin(1), 7);
        due(2, "begin(1) again", x.begin(1), 1);
        x = square();
        due(2, "begin as many", x.begin(4), 4);
        due(2, "places are gone", x.at(2, 0), 0);
        due(2, "a bar is new", x.bar(0, 1), 0);
        due(2, "its sign too", x.sign(0, 0), 1);
    }

    private static void joint() {
        RigidRanks x = new RigidRanks();
        x.begin(2);
        due(3, "same place", x.joint(0, 0, 0, 0), 0);
        due(3, "x", x.joint(0, 4, 0, 0), 1);
        due(3, "y", x.joint(0, 4, -4, 0), 1);
        due(3, "z", x.joint(0, 4, -4, 1), 1);
        due(3, "same again", x.joint(0, 4, -4, 1), 0);
        due(3, "no joint", x.joint(2, 0, 0, 0), BAD);
        due(3, "no joint", x.joint(-1, 0, 0, 0), BAD);
        for (int far : new int[] {5, -5, LEAST, MOST}) {
            due(3, "x too far", x.joint(0, far, 0, 0), BAD);
            due(3, "y too far", x.joint(0, 0, far, 0), BAD);
            due(3, "z too far", x.joint(0, 0, 0, far), BAD);
            due(3, "joint too far", x.joint(far, 0, 0, 0), BAD);
        }
        due(3, "refused, place stays", x.at(0, 0) * 100 + x.at(0, 1) * 10 + x.at(0, 2), 361);
        due(3, "the other stays", x.at(1, 0), 0);
        RigidRanks line = onLine();
        due(3, "rank before", line.many(PLANE, 5), 4);
        line.bar(0, 2);
        due(3, "rank on a line", line.rank(PLANE, 7), 2);
        line.joint(1, 1, 1, 0);
        due(3, "rank after", line.rank(PLANE, 7), 3);
    }

    private static void bar() {
        RigidRanks x = new RigidRanks();
        due(4, "one joint", x.bar(0, 0), BAD);
        x.begin(7);
        due(4, "first", x.bar(6, 2), 0);
        due(4, "there", x.bar(6, 2), THERE);
        due(4, "there turned", x.bar(2, 6), THERE);
        due(4, "same", x.bar(3, 3), BAD);
        for (int v : new int[] {-1, 7, LEAST, MOST}) {
            due(4, "a is none", x.bar(v, 0), BAD);
            due(4, "b is none", x.bar(0, v), BAD);
            due(4, "both are none", x.bar(v, v), BAD);
        }
        due(4, "refused, bars stay", x.count(1), 1);
        int number = 1;
        for (int v = 1; v < 7; v++) {
            due(4, "number", x.bar(0, v), number++);
        }
        for (int v = 2; v < 7; v++) {
            due(4, "number", x.bar(1, v), number++);
        }
        due(4, "twelve", x.count(1), 12);
        due(4, "full", x.bar(3, 4), FULL);
        due(4, "there before full", x.bar(2, 1), THERE);
        due(4, "bad before full", x.bar(3, 7), BAD);
        due(4, "still twelve", x.count(1), 12);
        x.unbar();
        due(4, "room again", x.bar(5, 4), 11);
    }

    private static void unbar() {
        RigidRanks x = square();
        x.sign(5, -1);
        due(5, "five left", x.unbar(), 5);
        due(5, "struts", x.count(3), 0);
        due(5, "the last went", x.bar(3, 1), 5);
        due(5, "its sign is 0", x.sign(5, 0), 1);
        for (int left = 5; left >= 0; left--) {
            due(5, "left", x.unbar(), left);
        }
        due(5, "none", x.unbar(), NONE);
        due(5, "none again", x.unbar(), NONE);
        due(5, "joints stay", x.count(0), 4);
        due(5, "places stay", x.at(2, 1), 2);
        RigidRanks y = square();
        due(5, "spare", y.spare(PLANE), 63);
        y.unbar();
        due(5, "spare after", y.spare(PLANE), 0);
    }

    private static void sign() {
        RigidRanks x = square();
        due(6, "was 0", x.sign(2, 1), 1);
        due(6, "was 1", x.sign(2, -1), 2);
        due(6, "was -1", x.sign(2, -1), 0);
        due(6, "was -1", x.sign(2, 0), 0);
        for (int s : new int[] {2, -2, LEAST, MOST}) {
            due(6, "no sign", x.sign(2, s), BAD);
        }
        for (int bar : new int[] {-1, 6, 12, LEAST, MOST}) {
            due(6, "no bar", x.sign(bar, 0), BAD);
        }
        due(6, "refused, stays", x.sign(2, 0), 1);
    }

    private static void count() {
        RigidRanks x = square();
        x.sign(0, 1);
        x.sign(3, 1);
        x.sign(4, -1);
        due(7, "joints", x.count(0), 4);
        due(7, "bars", x.count(1), 6);
        due(7, "cables", x.count(2), 9);
        due(7, "struts", x.count(3), 16);
        for (int what : new int[] {-1, 4, LEAST, MOST}) {
            due(7, "what", x.count(what), BAD);
        }
    }

    private static void end() {
        RigidRanks x = new RigidRanks();
        due(8, "no bars yet", x.end(0, 0), BAD);
        x.begin(5);
        x.bar(4, 1);
        x.bar(2, 3);
        due(8, "lesser", x.end(0, 0), 1);
        due(8, "greater", x.end(0, 1), 4);
        due(8, "lesser", x.end(1, 0), 2);
        due(8, "greater", x.end(1, 1), 3);
        for (int no : new int[] {-1, 2, LEAST, MOST}) {
            due(8, "no bar", x.end(no, 0), BAD);
            due(8, "which", x.end(0, no), BAD);
        }
        x.unbar();
        due(8, "a bar that went", x.end(1, 0), BAD);
    }

    private static void at() {
        RigidRanks x = new RigidRanks();
        x.begin(5);
        x.joint(4, -2, 3, -4);
        due(9, "x", x.at(4, 0), -2);
        due(9, "y", x.at(4, 1), 3);
        due(9, "z", x.at(4, 2), -4);
        for (int way = 0; way < 3; way++) {
            due(9, "another joint", x.at(3, way), 0);
        }
        for (int no : new int[] {-1, 5, LEAST, MOST}) {
            due(9, "no joint", x.at(no, 1), BAD);
            due(9, "way", x.at(4, no), BAD);
        }
        due(9, "way 3", x.at(4, 3), BAD);
    }

    // ---- promises 10 to 15: ranks ----

    private static void rank() {
        RigidRanks x = square();
        due(10, "none", x.rank(PLANE, 0), 0);
        due(10, "two", x.rank(PLANE, 33), 2);
        due(10, "five", x.rank(PLANE, 31), 5);
        due(10, "all in the plane", x.rank(PLANE, 63), 5);
        due(10, "flat in space", x.rank(SPACE, 63), 5);
        due(10, "anywhere", x.rank(ANYWHERE, 63), 5);
        due(10, "lifted", tetrahedron().rank(SPACE, 63), 6);
        due(10, "z counts for nothing", tetrahedron().rank(PLANE, 63), 5);
        due(10, "on a curve", k33OnCurve().rank(PLANE, 511), 8);
        due(10, "off it", k33OnCurve().rank(ANYWHERE, 511), 9);
        due(10, "one place", onePlace().rank(PLANE, 1), 0);
        due(10, "one place anywhere", onePlace().rank(ANYWHERE, 1), 1);
        for (int sort = 0; sort < 3; sort++) {
            for (int set : new int[] {-1, 64, 4096, LEAST, MOST}) {
                due(10, "no set", x.rank(sort, set), BAD);
            }
        }
    }

    private static void closure() {
        RigidRanks x = square();
        due(11, "none", x.closure(PLANE, 0), 0);
        due(11, "itself", x.closure(PLANE, 15), 15);
        due(11, "five give six", x.closure(PLANE, 31), 63);
        due(11, "five give six anywhere", x.closure(ANYWHERE, 62), 63);
        due(11, "in space", tetrahedron().closure(SPACE, 31), 31);
        due(11, "what is no row is implied by none", onePlace().closure(PLANE, 0), 1);
        due(11, "no row comes along", onePlace().closure(PLANE, 2), 3);
        due(11, "on a curve", k33OnCurve().closure(PLANE, 255), 511);
        due(11, "off it", k33OnCurve().closure(ANYWHERE, 255), 255);
        for (int set : new int[] {-1, 64, LEAST, MOST}) {
            due(11, "no set", x.closure(PLANE, set), BAD);
        }
    }

    private static void implied() {
        RigidRanks x = framework(4, new int[][] {{0, 0}, {2, 0}, {1, 2}, {3, 3}},
                new int[][] {{0, 1}, {1, 2}, {0, 2}, {1, 3}, {2, 3}});
        for (int sort : new int[] {PLANE, ANYWHERE}) {
            due(12, "by all", x.implied(sort, 0, 3, 31), 1);
            due(12, "turned", x.implied(sort, 3, 0, 31), 1);
            due(12, "by less", x.implied(sort, 0, 3, 15), 0);
            due(12, "a bar of it", x.implied(sort, 1, 2, 2), 1);
            due(12, "a bar not of it", x.implied(sort, 1, 2, 1), 0);
            due(12, "same", x.implied(sort, 2, 2, 31), BAD);
            due(12, "no set", x.implied(sort, 0, 3, 32), BAD);
            due(12, "no set", x.implied(sort, 0, 3, -1), BAD);
            for (int v : new int[] {-1, 4, LEAST, MOST}) {
                due(12, "no joint", x.implied(sort, 0, v, 31), BAD);
                due(12, "no joint", x.implied(sort, v, 0, 31), BAD);
            }
        }
        due(12, "in space", x.implied(SPACE, 0, 3, 31), 1);
        x.joint(3, 3, 3, 1);
        due(12, "lifted", x.implied(SPACE, 0, 3, 31), 0);
        due(12, "on a line", onLine().implied(PLANE, 0, 2, 3), 1);
        due(12, "on a line, anywhere", onLine().implied(ANYWHERE, 0, 2, 3), 0);
        due(12, "at one place", framework(3, null, new int[0][]).implied(PLANE, 0, 1, 0), 1);
    }

    private static void rigid() {
        RigidRanks x = square();
        due(13, "square", x.rigid(PLANE), 1);
        due(13, "anywhere", x.rigid(ANYWHERE), 1);
        due(13, "flat in space", x.rigid(SPACE), 1);
        due(13, "tetrahedron", tetrahedron().rigid(SPACE), 1);
        x.unbar();
        due(13, "five", x.rigid(PLANE), 1);
        x.unbar();
        due(13, "four", x.rigid(PLANE), 0);
        due(13, "two triangles", twoTriangles().rigid(PLANE), 0);
        due(13, "on a curve", k33OnCurve().rigid(PLANE), 0);
        due(13, "off it", k33OnCurve().rigid(ANYWHERE), 1);
        due(13, "on a line", onLine().rigid(PLANE), 1);
        due(13, "on a line, anywhere", onLine().rigid(ANYWHERE), 0);
        RigidRanks one = new RigidRanks();
        for (int sort = 0; sort < 3; sort++) {
            due(13, "one joint", one.rigid(sort), 1);
        }
        one.begin(7);
        due(13, "all at one place", one.rigid(PLANE), 1);
        due(13, "anywhere", one.rigid(ANYWHERE), 0);
        one.begin(2);
        due(13, "no bar", one.rigid(ANYWHERE), 0);
        one.bar(0, 1);
        due(13, "one bar", one.rigid(ANYWHERE), 1);
    }

    private static void lacks() {
        due(14, "tetrahedron", tetrahedron().lacks(SPACE), 0);
        RigidRanks x = square();
        due(14, "square", x.lacks(PLANE), 0);
        x.unbar();
        x.unbar();
        due(14, "four", x.lacks(PLANE), 1);
        due(14, "four anywhere", x.lacks(ANYWHERE), 1);
        due(14, "two triangles", twoTriangles().lacks(PLANE), 1);
        due(14, "on a curve", k33OnCurve().lacks(PLANE), 1);
        due(14, "on a line", onLine().lacks(PLANE), 0);
        due(14, "on a line, anywhere", onLine().lacks(ANYWHERE), 1);
        RigidRanks one = new RigidRanks();
        for (int sort = 0; sort < 3; sort++) {
            due(14, "one joint", one.lacks(sort), 0);
        }
        one.begin(7);
        due(14, "all at one place", one.lacks(PLANE), 0);
        due(14, "anywhere", one.lacks(ANYWHERE), 11);
        one.begin(2);
        due(14, "two joints", one.lacks(ANYWHERE), 1);
        RigidRanks space = framework(5, new int[][] {{0, 0, 0}, {1, 0, 0}, {0, 1, 0}, {0, 0, 1}, {1, 2, 3}}, new int[0][]);
        due(14, "five in space", space.lacks(SPACE), 9);
        due(14, "five in the plane", space.lacks(PLANE), 7);
    }

    private static void spare() {
        RigidRanks x = square();
        due(15, "all", x.spare(PLANE), 63);
        due(15, "anywhere", x.spare(ANYWHERE), 63);
        due(15, "tetrahedron", tetrahedron().spare(SPACE), 0);
        due(15, "no bars", new RigidRanks().spare(PLANE), 0);
        due(15, "no row", onePlace().spare(PLANE), 1);
        due(15, "on a curve", k33OnCurve().spare(PLANE), 511);
        due(15, "off it", k33OnCurve().spare(ANYWHERE), 0);
        RigidRanks hung = framework(5, new int[][] {{0, 0}, {2, 0}, {2, 2}, {0, 2}, {4, 4}},
                new int[][] {{0, 4}, {0, 1}, {1, 2}, {2, 3}, {0, 3}, {0, 2}, {1, 3}});
        due(15, "but the first", hung.spare(PLANE), 126);
    }

    // ---- promises 16 to 19: kinds of SETS, the polynomial, clusters ----

    private static void manyAre(String name, RigidRanks x, int sort, int... wants) {
        for (int what = 0; what < wants.length; what++) {
            due(16, name + ", what " + what, x.many(sort, what), wants[what]);
        }
    }

    private static void many() {
        manyAre("square", square(), PLANE, 63, 6, 1, 7, 1, 58, 15);
        manyAre("square", square(), ANYWHERE, 63, 6, 1, 7, 1, 58, 15);
        manyAre("tetrahedron", tetrahedron(), SPACE, 64, 1, 0, 1, 6, 64, 6);
        manyAre("no bars", new RigidRanks(), PLANE, 1, 1, 0, 1, 0, 1, 0);
        manyAre("one place", onePlace(), PLANE, 4, 1, 1, 2, 3, 4, 2);
        RigidRanks zeros = framework(3, null, new int[][] {{0, 1}, {1, 2}});
        manyAre("no rows", zeros, PLANE, 1, 1, 2, 4, 2, 1, 0);
        manyAre("on a curve", k33OnCurve(), PLANE, 511, 9, 1, 10, 1, 503, 36);
        for (int what : new int[] {-1, 7, LEAST, MOST}) {
            due(16, "what", square().many(PLANE, what), BAD);
        }
    }

    private static void toldAre(String name, RigidRanks x, int sort, int what, int... wants) {
        for (int k = 0; k < wants.length; k++) {
            due(17, name + ", what " + what + ", " + k, x.told(sort, what, k), wants[k]);
        }
        for (int k : new int[] {wants.length, -1, LEAST, MOST}) {
            due(17, name + ", what " + what + ", " + k, x.told(sort, what, k), NONE);
        }
    }

    private static void told() {
        toldAre("square", square(), PLANE, 1, 31, 47, 55, 59, 61, 62);
        toldAre("square", square(), PLANE, 2, 63);
        toldAre("square", square(), PLANE, 3, 31, 47, 55, 59, 61, 62, 63);
        toldAre("square", square(), PLANE, 4, 63);
        toldAre("square", square(), PLANE, 6, 3, 5, 6, 9, 10, 12, 17, 18, 20, 24, 33, 34, 36, 40, 48);
        toldAre("one place", onePlace(), PLANE, 0, 0, 2, 4, 6);
        toldAre("one place", onePlace(), PLANE, 1, 6);
        toldAre("one place", onePlace(), PLANE, 2, 1);
        toldAre("one place", onePlace(), PLANE, 3, 6, 7);
        toldAre("one place", onePlace(), PLANE, 4, 1, 2, 4);
        toldAre("one place", onePlace(), PLANE, 5, 1, 3, 5, 7);
        toldAre("one place", onePlace(), PLANE, 6, 2, 4);
        toldAre("no bars", new RigidRanks(), ANYWHERE, 0, 0);
        toldAre("no bars", new RigidRanks(), ANYWHERE, 5, 0);
        toldAre("no bars", new RigidRanks(), ANYWHERE, 4);
        toldAre("no bars", new RigidRanks(), ANYWHERE, 6);
        // BAR 1 alone has a lesser number than the PART of BAR 0, but not a lesser least BAR.
        RigidRanks hung = framework(5, new int[][] {{0, 0}, {2, 0}, {2, 2}, {0, 2}, {4, 4}},
                new int[][] {{0, 1}, {0, 4}, {1, 2}, {2, 3}, {0, 3}, {0, 2}, {1, 3}});
        toldAre("hung", hung, PLANE, 4, 125, 2);
        toldAre("hung", hung, ANYWHERE, 4, 125, 2);
        for (int what : new int[] {-1, 7, LEAST, MOST}) {
            due(17, "what", square().told(PLANE, what, 0), BAD);
        }
    }

    private static void coefficient() {
        RigidRanks x = square();
        for (int i = -1; i <= 13; i++) {
            for (int j = -1; j <= 13; j++) {
                boolean isThere = j == 0 && i >= 1 && i <= 5 || i == 0 && j == 1;
                due(18, "square " + i + " " + j, x.coefficient(PLANE, i, j), isThere ? 1 : 0);
                boolean isSixth = i == 6 && j == 0;
                due(18, "tetrahedron " + i + " " + j, tetrahedron().coefficient(SPACE, i, j), isSixth ? 1 : 0);
            }
        }
        due(18, "far", x.coefficient(PLANE, MOST, 0), 0);
        due(18, "far", x.coefficient(PLANE, 0, LEAST), 0);
        due(18, "no bars", new RigidRanks().coefficient(ANYWHERE, 0, 0), 1);
        due(18, "one place, x x y", onePlace().coefficient(PLANE, 2, 1), 1);
        due(18, "one place, x y", onePlace().coefficient(PLANE, 1, 1), 0);
        due(18, "one place, x x", onePlace().coefficient(PLANE, 2, 0), 0);
        due(18, "no rows, y y", framework(3, null, new int[][] {{0, 1}, {1, 2}}).coefficient(SPACE, 0, 2), 1);
    }

    private static void cluster() {
        int[] sorts = {PLANE, ANYWHERE};
        for (int sort : sorts) {
            due(19, "first", twoTriangles().cluster(sort, 0), 7);
            due(19, "second", twoTriangles().cluster(sort, 1), 28);
            due(19, "third", twoTriangles().cluster(sort, 2), NONE);
            due(19, "below", twoTriangles().cluster(sort, -1), NONE);
            due(19, "far", twoTriangles().cluster(sort, MOST), NONE);
            due(19, "square", square().cluster(sort, 0), 15);
            due(19, "square", square().cluster(sort, 1), NONE);
            due(19, "one joint", new RigidRanks().cluster(sort, 0), NONE);
        }
        due(19, "on a line, anywhere", onLine().cluster(ANYWHERE, 0), 3);
        due(19, "on a line, anywhere", onLine().cluster(ANYWHERE, 1), 6);
        due(19, "on a line", onLine().cluster(PLANE, 0), 7);
        // Two JOINTS at one place go with each other, and each with what its BAR holds.
        RigidRanks x = framework(3, new int[][] {{0, 0}, {0, 0}, {1, 0}}, new int[][] {{0, 2}});
        due(19, "one place", x.cluster(PLANE, 0), 3);
        due(19, "one place", x.cluster(PLANE, 1), 5);
        due(19, "one place", x.cluster(PLANE, 2), NONE);
        // JOINTS 1, 2 and 4 on one line: the PAIR 1, 4 is IMPLIED there, but not anywhere.
        RigidRanks lined = twoTriangles();
        lined.joint(4, 0, 4, 0);
        due(19, "lined", lined.cluster(PLANE, 0), 7);
        due(19, "lined", lined.cluster(PLANE, 1), 22);
        due(19, "lined", lined.cluster(PLANE, 2), 28);
        due(19, "lined", lined.cluster(PLANE, 3), NONE);
        due(19, "lined, anywhere", lined.cluster(ANYWHERE, 1), 28);
    }

    // ---- promises 20 and 21: stresses ----

    private static void stressed() {
        RigidRanks x = square();
        for (int bar = 0; bar < 6; bar++) {
            due(20, "square " + bar, x.stressed(PLANE, 63, bar), bar < 4 ? 2 : 0);
            due(20, "flat in space " + bar, x.stressed(SPACE, 63, bar), bar < 4 ? 2 : 0);
        }
        due(20, "anywhere", x.stressed(ANYWHERE, 63, 0), BAD);
        due(20, "no circuit", x.stressed(PLANE, 31, 0), BAD);
        due(20, "no circuit", x.stressed(PLANE, 0, 0), BAD);
        for (int no : new int[] {-1, 6, 64, LEAST, MOST}) {
            due(20, "no bar", x.stressed(PLANE, 63, no), BAD);
            due(20, "no set", x.stressed(PLANE, no, 0), BAD);
        }
        due(20, "no row, on itself", onePlace().stressed(PLANE, 1, 0), 2);
        due(20, "no row, outside", onePlace().stressed(PLANE, 1, 1), 1);
        due(20, "more than a circuit", onePlace().stressed(PLANE, 7, 1), BAD);
        // On a line: 0 .. 1 .. 3, the long BAR against the two short ones.
        RigidRanks line = onLine();
        line.bar(0, 2);
        due(20, "short", line.stressed(PLANE, 7, 0), 2);
        due(20, "short", line.stressed(PLANE, 7, 1), 2);
        due(20, "long", line.stressed(PLANE, 7, 2), 0);
        // Diagonals first: they are above 0, the sides below.
        RigidRanks turned = framework(4, new int[][] {{0, 0}, {2, 0}, {2, 2}, {0, 2}},
                new int[][] {{0, 2}, {1, 3}, {0, 1}, {1, 2}, {2, 3}, {0, 3}});
        due(20, "diagonal", turned.stressed(PLANE, 63, 1), 2);
        due(20, "side", turned.stressed(PLANE, 63, 4), 0);
    }

    private static void signAll(RigidRanks x, int... signs) {
        for (int bar = 0; bar < signs.length; bar++) {
            x.sign(bar, signs[bar]);
        }
    }

    private static void holds() {
        RigidRanks x = square();
        due(21, "only bars", x.holds(PLANE), 1);
        signAll(x, 1, 1, 1, 1, -1, -1);
        due(21, "sides cables", x.holds(PLANE), 1);
        signAll(x, -1, -1, -1, -1, 1, 1);
        due(21, "sides struts", x.holds(PLANE), 1);
        signAll(x, 1, 1, 1, 1, 1, -1);
        due(21, "one the wrong way", x.holds(PLANE), 0);
        signAll(x, 1, 0, 0, 1, 0, -1);
        due(21, "some bars", x.holds(PLANE), 1);
        signAll(x, 1, 0, -1, 0, 0, 0);
        due(21, "two sides against", x.holds(PLANE), 0);
        due(21, "anywhere", x.holds(ANYWHERE), BAD);
        signAll(x, 0, 0, 0, 0, 0, 0);
        x.unbar();
        due(21, "no stress, no signs", x.holds(PLANE), 1);
        x.sign(0, 1);
        due(21, "no stress, one cable", x.holds(PLANE), 0);
        x.sign(0, 0);
        x.unbar();
        due(21, "not rigid", x.holds(PLANE), 0);
        RigidRanks line = onLine();
        line.bar(0, 2);
        signAll(line, 1, 1, -1);
        due(21, "line", line.holds(PLANE), 1);
        due(21, "line in space", line.holds(SPACE), 1);
        signAll(line, -1, -1, 1);
        due(21, "line turned", line.holds(PLANE), 1);
        signAll(line, 1, 1, 1);
        due(21, "line, three cables", line.holds(PLANE), 0);
        RigidRanks zeros = framework(3, null, new int[][] {{0, 1}, {1, 2}});
        signAll(zeros, 1, -1);
        due(21, "no rows bear all", zeros.holds(PLANE), 1);
        RigidRanks curve = k33OnCurve();
        due(21, "stress, but not rigid", curve.holds(PLANE), 0);
    }

    // ---- promises 22 and 23 ----

    private static void rowIs(String name, RigidRanks x, int n, int... row) {
        for (int i = 0; i < n; i++) {
            due(22, name + " " + i, x.built(i), row.length == 0 ? NONE : row[i]);
        }
        for (int i : new int[] {-1, n, LEAST, MOST}) {
            due(22, name + " " + i, x.built(i), NONE);
        }
    }

    private static void built() {
        rowIs("one joint", new RigidRanks(), 1, 0);
        rowIs("two joints apart", framework(2, null, new int[0][]), 2);
        rowIs("one bar", framework(2, null, new int[][] {{0, 1}}), 2, 0, 1);
        rowIs("triangle", framework(3, null, new int[][] {{0, 1}, {0, 2}, {1, 2}}), 3, 0, 1, 2);
        rowIs("too few", framework(3, null, new int[][] {{0, 1}, {0, 2}}), 3);
        rowIs("two triangles on one bar", framework(4, null, new int[][] {{2, 3}, {0, 2}, {0, 3}, {1, 2}, {1, 3}}), 4,
                0, 2, 3, 1);
        rowIs("0 comes last", framework(5, null,
                new int[][] {{1, 2}, {1, 3}, {2, 3}, {2, 4}, {3, 4}, {0, 1}, {0, 4}}), 5, 1, 2, 3, 4, 0);
        rowIs("too many", square(), 4);
        rowIs("three at each", framework(6, null, K33), 6);
        rowIs("by one joint", twoTriangles(), 5);
    }

    private static void oneShape() {
        due(23, "one joint", new RigidRanks().oneShape(), 1);
        due(23, "two joints apart", framework(2, null, new int[0][]).oneShape(), 0);
        due(23, "one bar", framework(2, null, new int[][] {{0, 1}}).oneShape(), 1);
        due(23, "two of three", framework(3, null, new int[][] {{0, 1}, {0, 2}}).oneShape(), 0);
        due(23, "triangle", framework(3, null, new int[][] {{0, 1}, {0, 2}, {1, 2}}).oneShape(), 1);
        RigidRanks x = square();
        due(23, "all of four", x.oneShape(), 1);
        x.unbar();
        due(23, "five of six", x.oneShape(), 0);
        due(23, "three at each, none spare", framework(6, null, K33).oneShape(), 0);
        due(23, "wheel", framework(5, null,
                new int[][] {{0, 1}, {0, 2}, {0, 3}, {0, 4}, {1, 2}, {2, 3}, {3, 4}, {1, 4}}).oneShape(), 1);
        due(23, "all spare, but falls apart without 0 and 1", framework(6, null, new int[][] {{0, 1}, {0, 2}, {0, 3},
                {1, 2}, {1, 3}, {2, 3}, {0, 4}, {0, 5}, {1, 4}, {1, 5}, {4, 5}}).oneShape(), 0);
        RigidRanks pairs = framework(7, null, new int[][] {{0, 3}, {0, 4}, {0, 5}, {0, 6}, {1, 3}, {1, 4}, {1, 5},
                {1, 6}, {2, 3}, {2, 4}, {2, 5}, {2, 6}});
        due(23, "three with four", pairs.oneShape(), 1);
    }

    /** A SORT that may not be is BAD wherever one is asked for; SPACE is, with more than five JOINTS. */
    private static void badSorts() {
        RigidRanks x = square();
        for (int sort : new int[] {-1, 3, LEAST, MOST}) {
            everySort(x, sort);
        }
        RigidRanks five = framework(5, null, new int[0][]);
        due(10, "space with five", five.rank(SPACE, 0), 0);
        five.begin(6);
        everySort(five, SPACE);
        five.begin(5);
        due(10, "space with five again", five.rank(SPACE, 0), 0);
    }

    private static void everySort(RigidRanks x, int sort) {
        due(10, "sort", x.rank(sort, 0), BAD);
        due(11, "sort", x.closure(sort, 0), BAD);
        due(12, "sort", x.implied(sort, 0, 1, 0), BAD);
        due(13, "sort", x.rigid(sort), BAD);
        due(14, "sort", x.lacks(sort), BAD);
        due(15, "sort", x.spare(sort), BAD);
        due(16, "sort", x.many(sort, 0), BAD);
        due(17, "sort", x.told(sort, 0, 0), BAD);
        due(18, "sort", x.coefficient(sort, 0, 0), BAD);
        due(19, "sort", x.cluster(sort, 0), BAD);
        due(20, "sort", x.stressed(sort, 63, 0), BAD);
        due(21, "sort", x.holds(sort), BAD);
    }
}
