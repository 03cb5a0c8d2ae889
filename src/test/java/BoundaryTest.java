import java.util.ArrayList;
import java.util.Arrays;
import java.util.List;
import java.util.TreeSet;

/**
 * Each sentence of the document that names a boundary case has a test of its own here, under its own words: the last
 * number that may be and the first that may not, numbers far outside, what is empty and what is full, the order of
 * refusals, and that a refused call changes nothing. No object is asked more often than the document allows.
 */
public final class BoundaryTest {
    private static final int PLANE = 0, SPACE = 1, ANYWHERE = 2;
    private static final int NONE = -1, BAD = -2, FULL = -3, THERE = -4;
    private static final int LEAST = Integer.MIN_VALUE, MOST = Integer.MAX_VALUE;
    private static final int MOST_CALLS = 512;
    private static final int FACE = 22;

    private static final TreeSet<String> NAMES = new TreeSet<>();
    private static String sentence = "";
    private static int sentences = 0;
    private static int asked = 0;
    private static int wrong = 0;

    public static void main(String[] args) {
        theTerms();
        theKinds();
        theSigns();
        theShapes();
        theRefusals();
        thePromises();
        if (NAMES.size() != FACE) {
            fault("only these methods were asked: " + NAMES);
        }
        System.out.println(sentences + " sentences, " + asked + " answers asked, " + wrong + " not as due");
        if (wrong != 0) {
            System.exit(1);
        }
    }

    private static void theTerms() {
        fiveHundredAndTwelveCalls();
        jointsOneToSeven();
        jointsUpToTheLast();
        placesMinusFourToFour();
        barsZeroToEleven();
        barsBetweenTwoJoints();
        setsHaveNoOtherBits();
        setsWithoutBars();
        pairsWithBarOrWithout();
        sortsZeroToTwo();
        planeHasNoHeight();
        spaceWithFiveJoints();
        anywhereHasNoPlaces();
        rowsOfNoLength();
        anywhereCounts();
        anywhereCountsInside();
    }

    private static void theKinds() {
        theEmptySetIsIndependent();
        basesAtTheEdges();
        circuitsOfOneBarAndOfTwelve();
        spareNoneAndAll();
        spanningAtTheEdges();
        impliedByItself();
        rigidWithoutPairs();
        partsOfOneBar();
        clustersOfTwoAtLeast();
        clustersToWhichNoneCanCome();
        polynomialAtTheEdges();
    }

    private static void theSigns() {
        signsMinusOneToOne();
        stressOfNothing();
        holdsOnlyIfRigid();
        holdsAboveAndBelow();
    }

    private static void theShapes() {
        builtAlone();
        builtOfTwo();
        builtWithJustTwo();
        builtOfSeven();
        builtLeast();
        oneShapeOfThreeAtMost();
        oneShapeOfFour();
        oneShapeOfSeven();
        oneShapeWithoutAnyTwo();
    }

    private static void theRefusals() {
        badComesFirst();
        thereComesBeforeFull();
        refusedChangesNothing();
        refusedInTheMiddle();
    }

    private static void thePromises() {
        newObject();
        begin();
        joint();
        bar();
        unbar();
        sign();
        count();
        end();
        at();
        rank();
        closure();
        implied();
        rigid();
        lacks();
        spare();
        many();
        told();
        coefficient();
        cluster();
        stressed();
        holds();
        built();
        oneShape();
    }

    // ---- what a test is made of ----

    private static void sentence(String words) {
        sentence = words;
        sentences++;
    }

    private static void fault(String what) {
        wrong++;
        if (wrong <= 60) {
            System.out.println("\"" + sentence + "\": " + what);
        }
    }

    /** One object with all that it was asked. */
    private static final class Run {
        private final RigidRanks object = new RigidRanks();
        private final StringBuilder calls = new StringBuilder();
        private int made = 0;

        int ask(String name, int... a) {
            made++;
            asked++;
            NAMES.add(name);
            if (made > MOST_CALLS) {
                fault("the test asks one object too often");
            }
            calls.append(made == 1 ? "" : ", ").append(form(name, a));
            return answer(object, name, a);
        }

        Run due(int want, String name, int... a) {
            int got = ask(name, a);
            if (got != want) {
                fault(form(name, a) + " answered " + got + ", due is " + want + ", behind " + calls);
            }
            return this;
        }

        /** The same answer, whichever of some numbers stands at one of the call's places. */
        Run dueForEach(int want, int[] numbers, int place, String name, int... a) {
            for (int number : numbers) {
                int[] b = a.clone();
                b[place] = number;
                due(want, name, b);
            }
            return this;
        }
    }

    private static String form(String name, int... a) {
        String text = Arrays.toString(a);
        return name + "(" + text.substring(1, text.length() - 1) + ")";
    }

    private static int answer(RigidRanks x, String name, int... a) {
        switch (name) {
            case "begin": return x.begin(a[0]);
            case "joint": return x.joint(a[0], a[1], a[2], a[3]);
            case "bar": return x.bar(a[0], a[1]);
            case "unbar": return x.unbar();
            case "sign": return x.sign(a[0], a[1]);
            case "count": return x.count(a[0]);
            case "end": return x.end(a[0], a[1]);
            case "at": return x.at(a[0], a[1]);
            case "rank": return x.rank(a[0], a[1]);
            case "closure": return x.closure(a[0], a[1]);
            case "implied": return x.implied(a[0], a[1], a[2], a[3]);
            case "rigid": return x.rigid(a[0]);
            case "lacks": return x.lacks(a[0]);
            case "spare": return x.spare(a[0]);
            case "many": return x.many(a[0], a[1]);
            case "told": return x.told(a[0], a[1], a[2]);
            case "coefficient": return x.coefficient(a[0], a[1], a[2]);
            case "cluster": return x.cluster(a[0], a[1]);
            case "stressed": return x.stressed(a[0], a[1], a[2]);
            case "holds": return x.holds(a[0]);
            case "built": return x.built(a[0]);
            case "oneShape": return x.oneShape();
            default: throw new IllegalStateException(name);
        }
    }

    /** Numbers below least and above most: the first, far ones, and such as would fit if bits of them were lost. */
    private static int[] outside(int least, int most) {
        int[] some = {least - 1, most + 1, least - 2, most + 2, LEAST, LEAST + 1, MOST, MOST - 1, LEAST + least,
            LEAST + most, least + 8, least + 16, most + 32, least + 64, most + 256, least + 256, most + 65536,
            least - 65536, least + (1 << 30), most - (1 << 30)};
        return Arrays.stream(some).filter(v -> v < least || v > most).distinct().toArray();
    }

    // ---- frameworks ----

    private static Run joints(int n) {
        Run x = new Run();
        x.ask("begin", n);
        return x;
    }

    private static Run framework(int[][] places, int[][] bars) {
        Run x = joints(places.length);
        for (int v = 0; v < places.length; v++) {
            x.ask("joint", v, places[v][0], places[v][1], places[v].length > 2 ? places[v][2] : 0);
        }
        return with(x, bars);
    }

    private static Run with(Run x, int[][] bars) {
        for (int[] bar : bars) {
            x.ask("bar", bar[0], bar[1]);
        }
        return x;
    }

    private static Run signed(Run x, int... signs) {
        for (int bar = 0; bar < signs.length; bar++) {
            x.ask("sign", bar, signs[bar]);
        }
        return x;
    }

    /** All JOINTS in a row, BARS between those next and next but one: 2 n - 3 BARS that are INDEPENDENT anywhere. */
    private static int[][] strip(int n) {
        List<int[]> bars = new ArrayList<>();
        for (int v = 1; v < n; v++) {
            bars.add(new int[] {v - 1, v});
            if (v > 1) {
                bars.add(new int[] {v - 2, v});
            }
        }
        return bars.toArray(new int[0][]);
    }

    private static int[][] allPairs(int n) {
        List<int[]> pairs = new ArrayList<>();
        for (int a = 0; a < n; a++) {
            for (int b = a + 1; b < n; b++) {
                pairs.add(new int[] {a, b});
            }
        }
        return pairs.toArray(new int[0][]);
    }

    private static final int[][] HEXAGON = {{0, 0}, {3, 0}, {2, 3}, {-2, 3}, {-3, 0}, {-2, -3}, {2, -3}};
    private static final int[][] SPOKES_AND_RIM = {{0, 1}, {0, 2}, {0, 3}, {0, 4}, {0, 5}, {0, 6},
        {1, 2}, {2, 3}, {3, 4}, {4, 5}, {5, 6}, {1, 6}};

    /** Seven JOINTS, twelve BARS, all of them the one CIRCUIT: spokes 0 .. 5 pull where the rim 6 .. 11 pushes. */
    private static Run wheel() {
        return framework(HEXAGON, SPOKES_AND_RIM);
    }

    /** Seven JOINTS at one place with twelve BARS, whose ROWS are all 0 in the PLANE. */
    private static Run heap() {
        return with(joints(7), SPOKES_AND_RIM);
    }

    /** Seven JOINTS with eleven BARS, INDEPENDENT anywhere. */
    private static Run strip() {
        return with(joints(7), strip(7));
    }

    /** Five JOINTS in SPACE, the last one inside the others; all ten BARS are the one CIRCUIT there. */
    private static Run five() {
        return framework(new int[][] {{0, 0, 0}, {4, 0, 0}, {0, 4, 0}, {0, 0, 4}, {1, 1, 1}}, allPairs(5));
    }

    /** Four sides, BARS 0 .. 3, and two diagonals, BARS 4 and 5. */
    private static Run square() {
        return framework(new int[][] {{0, 0}, {2, 0}, {2, 2}, {0, 2}},
                new int[][] {{0, 1}, {1, 2}, {2, 3}, {0, 3}, {0, 2}, {1, 3}});
    }

    // ---- terms ----

    private static void fiveHundredAndTwelveCalls() {
        sentence("An object is used for at most 512 calls after it has been made");
        Run moves = framework(new int[][] {{0, 0}, {1, 0}, {2, 0}}, allPairs(3));
        while (moves.made + 2 <= MOST_CALLS) {
            boolean isOff = moves.made % 4 < 2;
            moves.due(moves.made < 8 ? (isOff ? 1 : 0) : 1, "joint", 1, 1, isOff ? 1 : 0, 0);
            moves.due(isOff ? 3 : 2, "rank", PLANE, 7);
        }
        Run bars = wheel();
        while (bars.made + 4 <= MOST_CALLS) {
            bars.due(11, "unbar").due(2048, "many", ANYWHERE, 0).due(11, "bar", 6, 1).due(4095, "many", PLANE, 0);
        }
        Run begins = new Run();
        for (int i = 0; i < MOST_CALLS; i++) {
            begins.due(i == 0 ? 1 : 1 + (i - 1) % 7, "begin", 1 + i % 7);
        }
        // What comes behind is free, but nothing may be thrown.
        for (int i = 0; i < 3 * MOST_CALLS; i++) {
            answer(bars.object, "unbar");
            answer(bars.object, "bar", i % 7, (i + 1) % 7);
            answer(bars.object, "told", i % 3, i % 7, i);
        }
    }

    private static void jointsOneToSeven() {
        sentence("JOINTS 0 .. n - 1, n 1 .. 7");
        Run x = new Run();
        int before = 1;
        for (int n : new int[] {1, 7, 1, 2, 3, 4, 5, 6, 7}) {
            x.due(before, "begin", n).due(n, "count", 0);
            before = n;
        }
        for (int n : outside(1, 7)) {
            x.due(BAD, "begin", n).due(7, "count", 0);
        }
    }

    private static void jointsUpToTheLast() {
        sentence("JOINTS 0 .. n - 1");
        for (int n = 1; n <= 7; n++) {
            int[] none = outside(0, n - 1);
            Run x = joints(n);
            for (int v = 0; v < n; v++) {
                x.due(1, "joint", v, 1, 2, 3).due(1, "at", v, 0).due(2, "at", v, 1).due(3, "at", v, 2);
            }
            x.dueForEach(BAD, none, 0, "joint", 0, 0, 0, 0);
            x.dueForEach(BAD, none, 0, "at", 0, 0);
            x.dueForEach(BAD, none, 0, "bar", 0, 0).dueForEach(BAD, none, 1, "bar", 0, 0);
            for (int sort = 0; sort < 3; sort++) {
                x.dueForEach(BAD, none, 1, "implied", sort, 0, 0, 0).dueForEach(BAD, none, 2, "implied", sort, 0, 0, 0);
            }
            x.dueForEach(NONE, none, 0, "built", 0);
            x.due(0, "count", 1).due(1, "at", n - 1, 0);
            if (n > 1) {
                x.due(0, "implied", ANYWHERE, 0, n - 1, 0).due(0, "bar", n - 1, 0)
                        .due(1, "implied", ANYWHERE, 0, n - 1, 1);
            }
        }
    }

    private static void placesMinusFourToFour() {
        sentence("each at a place (x, y, z), whole numbers -4 .. 4");
        for (int v : new int[] {0, 6}) {
            Run x = joints(7);
            for (int way = 0; way < 3; way++) {
                int[] place = {v, 1, 2, 3};
                for (int number = -4; number <= 4; number++) {
                    place[1 + way] = number;
                    x.ask("joint", place);
                    x.due(number, "at", v, way).due(0, "joint", place);
                }
                place[1 + way] = -4;
                x.due(1, "joint", place);
                x.dueForEach(BAD, outside(-4, 4), 1 + way, "joint", place);
                for (int other = 0; other < 3; other++) {
                    x.due(place[1 + other], "at", v, other);
                }
            }
            x.due(0, "at", 3, 0).due(0, "at", 3, 1).due(0, "at", 3, 2);
        }
    }

    private static void barsZeroToEleven() {
        sentence("BARS 0 .. 11");
        Run x = joints(7);
        for (int i = 0; i < 12; i++) {
            x.due(i, "count", 1).due(BAD, "end", i, 0).due(BAD, "end", i, 1).due(BAD, "sign", i, 0);
            x.due(i, "bar", SPOKES_AND_RIM[i][0], SPOKES_AND_RIM[i][1]);
            x.due(SPOKES_AND_RIM[i][0], "end", i, 0).due(SPOKES_AND_RIM[i][1], "end", i, 1).due(1, "sign", i, 0);
        }
        x.due(12, "count", 1).due(FULL, "bar", 1, 3).due(FULL, "bar", 6, 4).due(FULL, "bar", 5, 2);
        x.due(12, "count", 1).due(BAD, "end", 12, 0).due(BAD, "sign", 12, 0);
        x.due(1, "end", 11, 0).due(6, "end", 11, 1);
        x.due(11, "unbar").due(11, "bar", 1, 3).due(FULL, "bar", 1, 6).due(3, "end", 11, 1);
    }

    private static void barsBetweenTwoJoints() {
        sentence("each between two JOINTS, no two between the same");
        Run x = joints(7);
        int number = 0;
        for (int[] pair : SPOKES_AND_RIM) {
            x.due(BAD, "bar", pair[0], pair[0]).due(BAD, "bar", pair[1], pair[1]);
            x.due(number++, "bar", pair[1], pair[0]);
            x.due(THERE, "bar", pair[0], pair[1]).due(THERE, "bar", pair[1], pair[0]).due(number, "count", 1);
        }
        for (int[] pair : SPOKES_AND_RIM) {
            x.due(THERE, "bar", pair[0], pair[1]).due(THERE, "bar", pair[1], pair[0]);
        }
        x.due(12, "count", 1);
        new Run().due(BAD, "bar", 0, 0).due(0, "count", 1);
    }

    private static void setsHaveNoOtherBits() {
        sentence("they are told as SETS (bit i for BAR i)");
        for (int m = 0; m <= 12; m++) {
            Run x = framework(HEXAGON, Arrays.copyOf(SPOKES_AND_RIM, m));
            int all = (1 << m) - 1;
            int rank = Math.min(m, 11);
            for (int sort : new int[] {PLANE, ANYWHERE}) {
                x.due(rank, "rank", sort, all).due(0, "rank", sort, 0);
                x.due(all, "closure", sort, all).due(0, "closure", sort, 0);
                x.dueForEach(BAD, outside(0, all), 1, "rank", sort, 0);
                x.dueForEach(BAD, outside(0, all), 1, "closure", sort, 0);
                x.dueForEach(BAD, outside(0, all), 3, "implied", sort, 0, 1, 0);
                for (int i = 0; i < m; i++) {
                    x.due(1, "rank", sort, 1 << i).due(1 << i, "closure", sort, 1 << i);
                }
                x.due(m > 0 ? 1 : 0, "implied", sort, 0, 1, all);
            }
            if (m > 0) {
                // A SET with a BAR that is gone is none any more.
                x.ask("unbar");
                x.due(BAD, "rank", PLANE, all).due(BAD, "rank", ANYWHERE, 1 << (m - 1)).due(BAD, "closure", PLANE, all);
                x.due(BAD, "implied", ANYWHERE, 0, 1, all).due(m - 1, "rank", ANYWHERE, all >> 1);
            }
        }
    }

    private static void setsWithoutBars() {
        sentence("bit i for BAR i: without BARS the empty SET is the only one");
        for (int n = 1; n <= 7; n++) {
            Run x = joints(n);
            for (int sort = 0; sort < 3; sort++) {
                boolean isBad = sort == SPACE && n > 5;
                x.due(isBad ? BAD : 0, "rank", sort, 0).due(isBad ? BAD : 0, "closure", sort, 0);
                x.due(BAD, "rank", sort, 1).due(BAD, "closure", sort, 1).due(BAD, "rank", sort, -1);
                x.due(isBad ? BAD : 0, "spare", sort);
                int[] manyOfKind = {1, 1, 0, 1, 0, 1, 0};
                for (int what = 0; what < 7; what++) {
                    x.due(isBad ? BAD : manyOfKind[what], "many", sort, what);
                    x.due(isBad ? BAD : manyOfKind[what] == 1 ? 0 : NONE, "told", sort, what, 0);
                    x.due(isBad ? BAD : NONE, "told", sort, what, 1);
                }
                x.due(isBad ? BAD : 1, "coefficient", sort, 0, 0).due(isBad ? BAD : 0, "coefficient", sort, 1, 0);
            }
            x.due(0, "count", 1).due(0, "count", 2).due(0, "count", 3).due(NONE, "unbar");
        }
    }

    private static void pairsWithBarOrWithout() {
        sentence("PAIRS are all two JOINTS (a below b), with BAR or without");
        Run x = wheel();
        Run strip = strip();
        Run none = joints(7);
        for (int[] pair : allPairs(7)) {
            x.due(1, "implied", PLANE, pair[0], pair[1], 4095).due(1, "implied", PLANE, pair[1], pair[0], 4094);
            x.due(0, "implied", PLANE, pair[0], pair[1], 0);
            strip.due(1, "implied", ANYWHERE, pair[0], pair[1], 2047);
            none.due(0, "implied", ANYWHERE, pair[0], pair[1], 0).due(1, "implied", PLANE, pair[0], pair[1], 0);
        }
        for (int v = 0; v < 7; v++) {
            x.due(BAD, "implied", PLANE, v, v, 4095).due(BAD, "implied", ANYWHERE, v, v, 0);
        }
    }

    private static void sortsZeroToTwo() {
        sentence("SORTS: 0 PLANE .. 1 SPACE .. 2 ANYWHERE");
        Run x = square();
        for (int sort = 0; sort < 3; sort++) {
            x.due(5, "rank", sort, 63).due(63, "closure", sort, 31).due(1, "implied", sort, 1, 3, 31);
            x.due(1, "rigid", sort).due(0, "lacks", sort).due(63, "spare", sort).due(6, "many", sort, 1);
            x.due(63, "told", sort, 2, 0).due(1, "coefficient", sort, 5, 0).due(15, "cluster", sort, 0);
            x.due(sort == 2 ? BAD : 2, "stressed", sort, 63, 0).due(sort == 2 ? BAD : 1, "holds", sort);
        }
        for (int sort : outside(0, 2)) {
            refusesSort(x, sort);
        }
        refusesSort(new Run(), -1);
        refusesSort(new Run(), 3);
    }

    private static void refusesSort(Run x, int sort) {
        x.due(BAD, "rank", sort, 0).due(BAD, "closure", sort, 0).due(BAD, "implied", sort, 0, 1, 0);
        x.due(BAD, "rigid", sort).due(BAD, "lacks", sort).due(BAD, "spare", sort).due(BAD, "many", sort, 0);
        x.due(BAD, "told", sort, 0, 0).due(BAD, "coefficient", sort, 0, 0).due(BAD, "cluster", sort, 0);
        x.due(BAD, "stressed", sort, 63, 0).due(BAD, "holds", sort);
    }

    private static void planeHasNoHeight() {
        sentence("PLANE: z counts for nothing");
        Run x = square();
        for (int z = -4; z <= 4; z += 8) {
            x.due(1, "joint", 1, 2, 0, z);
            x.due(5, "rank", PLANE, 63).due(6, "rank", SPACE, 63).due(63, "told", PLANE, 2, 0)
                    .due(NONE, "told", SPACE, 2, 0);
            x.due(0, "stressed", PLANE, 63, 4).due(BAD, "stressed", SPACE, 63, 4).due(1, "rigid", PLANE)
                    .due(1, "rigid", SPACE);
        }
        Run up = framework(new int[][] {{1, 1, -4}, {1, 1, 4}}, new int[][] {{0, 1}});
        up.due(0, "rank", PLANE, 1).due(1, "rank", SPACE, 1).due(1, "implied", PLANE, 0, 1, 0);
        up.due(0, "implied", SPACE, 0, 1, 0).due(1, "spare", PLANE).due(0, "spare", SPACE);
    }

    private static void spaceWithFiveJoints() {
        sentence("SPACE (with 5 JOINTS at most; with more it is BAD)");
        Run x = five();
        x.due(9, "rank", SPACE, 1023).due(1023, "closure", SPACE, 511).due(1, "implied", SPACE, 3, 4, 511);
        x.due(1, "rigid", SPACE).due(0, "lacks", SPACE).due(1023, "spare", SPACE).due(10, "many", SPACE, 1);
        x.due(1023, "told", SPACE, 2, 0).due(1, "coefficient", SPACE, 9, 0).due(31, "cluster", SPACE, 0);
        x.due(2, "stressed", SPACE, 1023, 0).due(0, "stressed", SPACE, 1023, 9).due(1, "holds", SPACE);
        for (int n = 6; n <= 7; n++) {
            x.due(n == 6 ? 5 : 6, "begin", n);
            refusesSort(x, SPACE);
            with(x, SPOKES_AND_RIM);
            refusesSort(x, SPACE);
            x.due(0, "rank", PLANE, 1).due(1, "rank", ANYWHERE, 1);
        }
        for (int n = 5; n >= 1; n--) {
            x.due(n == 5 ? 7 : n + 1, "begin", n);
            x.due(0, "rank", SPACE, 0).due(0, "closure", SPACE, 0).due(1, "rigid", SPACE).due(0, "lacks", SPACE);
            x.due(0, "spare", SPACE).due(1, "many", SPACE, 3).due(0, "told", SPACE, 3, 0)
                    .due(1, "coefficient", SPACE, 0, 0);
            x.due(n == 1 ? NONE : (1 << n) - 1, "cluster", SPACE, 0).due(1, "holds", SPACE);
        }
    }

    private static void anywhereHasNoPlaces() {
        sentence("ANYWHERE in the plane: places count for nothing");
        for (Run x : new Run[] {heap(), wheel()}) {
            x.due(11, "rank", ANYWHERE, 4095).due(4095, "closure", ANYWHERE, 2047).due(1, "rigid", ANYWHERE);
            x.due(0, "lacks", ANYWHERE).due(4095, "spare", ANYWHERE).due(4095, "told", ANYWHERE, 2, 0);
            x.due(127, "cluster", ANYWHERE, 0).due(1, "oneShape").due(1, "joint", 3, -4, 4, -4)
                    .due(1, "rank", ANYWHERE, 4);
            x.due(1, "joint", 0, 4, -4, 4).due(1, "many", ANYWHERE, 2).due(1, "oneShape");
        }
        Run moved = framework(HEXAGON, strip(7));
        for (int i = 0; i < 7; i++) {
            moved.due(i, "built", i);
        }
    }

    private static void rowsOfNoLength() {
        sentence("at a the differences of a's place less b's, at b the same with the other sign, else 0");
        Run x = framework(new int[][] {{4, -4, 4}, {4, -4, 4}}, new int[][] {{0, 1}});
        x.due(0, "rank", PLANE, 1).due(0, "rank", SPACE, 1).due(1, "rank", ANYWHERE, 1);
        // The least difference and the greatest one raise THE RANK alike.
        int[][] away = {{4, -4, 3}, {4, -3, 4}, {3, -4, 4}, {-4, 4, -4}, {-4, -4, 4}, {4, 4, 4}, {4, -4, -4}};
        for (int[] place : away) {
            x.due(1, "joint", 1, place[0], place[1], place[2]).due(1, "rank", SPACE, 1);
            x.due(place[0] != 4 || place[1] != -4 ? 1 : 0, "rank", PLANE, 1);
        }
        x.due(1, "joint", 1, 4, -4, 4).due(0, "rank", SPACE, 1).due(1, "rank", ANYWHERE, 1);
    }

    private static void anywhereCounts() {
        sentence("no set of them, not empty, whose ends are k JOINTS has more than 2 k - 3");
        for (int k = 2; k <= 7; k++) {
            int most = 2 * k - 3;
            Run x = with(joints(k), strip(k));
            x.due(most, "count", 1).due(most, "rank", ANYWHERE, (1 << most) - 1).due(0, "many", ANYWHERE, 2);
            x.due(1, "rigid", ANYWHERE).due(0, "spare", ANYWHERE).due(1 << most, "many", ANYWHERE, 0);
            if (k > 3) {
                x.due(most, "bar", 0, k - 1).due(most, "rank", ANYWHERE, (2 << most) - 1).due(1, "many", ANYWHERE, 2);
            }
            x = with(joints(k), Arrays.copyOf(strip(k), most - 1));
            x.due(most - 1, "rank", ANYWHERE, (1 << (most - 1)) - 1).due(0, "rigid", ANYWHERE)
                    .due(1, "lacks", ANYWHERE);
        }
    }

    private static void anywhereCountsInside() {
        sentence("THE RANK is the size of a greatest INDEPENDENT one");
        // Six BARS among four of seven JOINTS are one too many, though all seven may have eleven.
        Run x = with(joints(7), new int[][] {{3, 4}, {3, 5}, {3, 6}, {4, 5}, {4, 6}, {5, 6}});
        x.due(5, "rank", ANYWHERE, 63).due(63, "told", ANYWHERE, 2, 0).due(6, "lacks", ANYWHERE);
        with(x, new int[][] {{0, 1}, {0, 2}, {1, 2}, {0, 3}, {1, 4}, {2, 5}});
        x.due(11, "rank", ANYWHERE, 4095).due(63, "spare", ANYWHERE).due(0, "lacks", ANYWHERE)
                .due(1, "many", ANYWHERE, 2);
        x.due(5, "rank", ANYWHERE, 63).due(6, "rank", ANYWHERE, 4095 - 63).due(7, "many", ANYWHERE, 4);
    }

    // ---- independent sets and what comes of them ----

    private static void theEmptySetIsIndependent() {
        sentence("A SET of BARS is INDEPENDENT, if its RANK is its size");
        for (Run x : new Run[] {new Run(), joints(7), wheel(), heap(), square()}) {
            for (int sort : new int[] {PLANE, ANYWHERE}) {
                x.due(0, "rank", sort, 0).due(0, "told", sort, 0, 0);
            }
        }
        heap().due(1, "many", PLANE, 0).due(NONE, "told", PLANE, 0, 1).due(4095, "many", ANYWHERE, 0);
        wheel().due(4095, "many", PLANE, 0).due(4094, "told", PLANE, 0, 4094).due(NONE, "told", PLANE, 0, 4095);
        strip().due(2048, "many", ANYWHERE, 0).due(2047, "told", ANYWHERE, 0, 2047)
                .due(NONE, "told", ANYWHERE, 0, 2048);
    }

    private static void basesAtTheEdges() {
        sentence("BASES: INDEPENDENT SETS as great as THE RANK of all");
        heap().due(1, "many", PLANE, 1).due(0, "told", PLANE, 1, 0).due(NONE, "told", PLANE, 1, 1);
        strip().due(1, "many", ANYWHERE, 1).due(2047, "told", ANYWHERE, 1, 0).due(NONE, "told", ANYWHERE, 1, 1);
        Run x = wheel().due(12, "many", PLANE, 1);
        for (int k = 0; k < 12; k++) {
            x.due(4095 - (1 << (11 - k)), "told", PLANE, 1, k).due(4095 - (1 << (11 - k)), "told", ANYWHERE, 1, k);
        }
        x.due(NONE, "told", PLANE, 1, 12).due(NONE, "told", PLANE, 1, -1);
    }

    private static void circuitsOfOneBarAndOfTwelve() {
        sentence("CIRCUITS: SETS that are not INDEPENDENT, but without any one of their BARS they are");
        Run x = heap().due(12, "many", PLANE, 2);
        for (int k = 0; k < 12; k++) {
            x.due(1 << k, "told", PLANE, 2, k).due(2, "stressed", PLANE, 1 << k, k);
        }
        x.due(NONE, "told", PLANE, 2, 12).due(BAD, "stressed", PLANE, 0, 0).due(BAD, "stressed", PLANE, 3, 0);
        x.due(BAD, "stressed", PLANE, 4095, 0).due(1, "many", ANYWHERE, 2);
        wheel().due(1, "many", PLANE, 2).due(4095, "told", PLANE, 2, 0).due(NONE, "told", PLANE, 2, 1)
                .due(BAD, "stressed", PLANE, 4094, 1).due(BAD, "stressed", PLANE, 2047, 0);
        strip().due(0, "many", ANYWHERE, 2).due(NONE, "told", ANYWHERE, 2, 0);
    }

    private static void spareNoneAndAll() {
        sentence("A BAR is SPARE, if THE RANK of all without it is as great");
        joints(7).due(0, "spare", PLANE).due(0, "spare", ANYWHERE);
        heap().due(4095, "spare", PLANE).due(4095, "spare", ANYWHERE);
        wheel().due(4095, "spare", PLANE).due(11, "unbar").due(0, "spare", PLANE).due(0, "spare", ANYWHERE);
        strip().due(0, "spare", ANYWHERE).due(2047, "spare", PLANE);
        // In the PLANE JOINT 3 lies on 0: without the last BAR it hangs on 5 and 7 alone.
        five().due(1023, "spare", SPACE).due(1023, "spare", PLANE).due(9, "unbar").due(0, "spare", SPACE)
                .due(511 - 32 - 128, "spare", PLANE);
    }

    private static void spanningAtTheEdges() {
        sentence("SPANNING is a SET whose RANK is that of all");
        heap().due(4096, "many", PLANE, 3).due(0, "told", PLANE, 3, 0).due(4095, "told", PLANE, 3, 4095)
                .due(NONE, "told", PLANE, 3, 4096).due(13, "many", ANYWHERE, 3);
        wheel().due(13, "many", PLANE, 3).due(2047, "told", PLANE, 3, 0).due(4095, "told", PLANE, 3, 12)
                .due(NONE, "told", PLANE, 3, 13);
        strip().due(1, "many", ANYWHERE, 3).due(2047, "told", ANYWHERE, 3, 0).due(NONE, "told", ANYWHERE, 3, 1);
    }

    private static void impliedByItself() {
        sentence("A PAIR is IMPLIED by a SET, if its ROW with those has no greater RANK (so a BAR of it is)");
        Run x = wheel();
        for (int i = 0; i < 12; i++) {
            int[] pair = SPOKES_AND_RIM[i];
            for (int sort : new int[] {PLANE, ANYWHERE}) {
                x.due(1, "implied", sort, pair[0], pair[1], 1 << i).due(0, "implied", sort, pair[0], pair[1], 0);
                x.due(1, "implied", sort, pair[1], pair[0], 4095)
                        .due(1, "implied", sort, pair[0], pair[1], 4095 - (1 << i));
                x.due(0, "implied", sort, pair[0], pair[1], 4095 - (1 << i) - (1 << (i + 1) % 12));
            }
        }
    }

    private static void rigidWithoutPairs() {
        sentence("The framework is RIGID, if all PAIRS are IMPLIED by all BARS");
        Run one = new Run();
        one.due(1, "rigid", PLANE).due(1, "rigid", SPACE).due(1, "rigid", ANYWHERE);
        one.due(0, "lacks", PLANE).due(0, "lacks", SPACE).due(0, "lacks", ANYWHERE);
        Run two = joints(2).due(1, "rigid", PLANE).due(1, "rigid", SPACE).due(0, "rigid", ANYWHERE);
        two.due(1, "joint", 1, 0, 0, 1).due(1, "rigid", PLANE).due(0, "rigid", SPACE).due(1, "lacks", SPACE);
        two.due(1, "joint", 1, 0, 1, 0).due(0, "rigid", PLANE).due(1, "lacks", PLANE).due(0, "bar", 1, 0);
        two.due(1, "rigid", PLANE).due(1, "rigid", SPACE).due(1, "rigid", ANYWHERE);
        Run seven = wheel().due(1, "rigid", PLANE).due(11, "unbar").due(1, "rigid", PLANE).due(1, "rigid", ANYWHERE);
        seven.due(10, "unbar").due(0, "rigid", PLANE).due(0, "rigid", ANYWHERE);
    }

    private static void partsOfOneBar() {
        sentence("BARS are in one PART, if they are the same or some CIRCUIT has both");
        Run heap = heap().due(12, "many", PLANE, 4).due(1, "many", ANYWHERE, 4).due(4095, "told", ANYWHERE, 4, 0);
        Run strip = strip().due(11, "many", ANYWHERE, 4).due(11, "many", PLANE, 4);
        for (int k = 0; k < 12; k++) {
            heap.due(1 << k, "told", PLANE, 4, k);
            strip.due(k == 11 ? NONE : 1 << k, "told", ANYWHERE, 4, k);
        }
        heap.due(NONE, "told", PLANE, 4, 12).due(NONE, "told", ANYWHERE, 4, 1);
        joints(7).due(0, "many", ANYWHERE, 4).due(NONE, "told", ANYWHERE, 4, 0);
        wheel().due(1, "many", PLANE, 4).due(4095, "told", PLANE, 4, 0).due(NONE, "told", PLANE, 4, 1);
        // Two CIRCUITS of six BARS each, in turn: the one's BARS have even numbers, the other's odd ones.
        Run twice = with(joints(7), new int[][] {{0, 1}, {3, 4}, {0, 2}, {3, 5}, {0, 3}, {3, 6}, {1, 2}, {4, 5}, {1, 3},
            {4, 6}, {2, 3}, {5, 6}});
        twice.due(2, "many", ANYWHERE, 4).due(0x555, "told", ANYWHERE, 4, 0).due(0xAAA, "told", ANYWHERE, 4, 1);
        twice.due(NONE, "told", ANYWHERE, 4, 2).due(10, "rank", ANYWHERE, 4095).due(2, "many", ANYWHERE, 2);
    }

    private static void clustersOfTwoAtLeast() {
        sentence("CLUSTERS: sets of two JOINTS at least, each PAIR of which is IMPLIED by all BARS");
        Run one = new Run();
        for (int sort = 0; sort < 3; sort++) {
            one.due(NONE, "cluster", sort, 0).due(NONE, "cluster", sort, -1).due(NONE, "cluster", sort, 1);
        }
        Run two = joints(2).due(NONE, "cluster", ANYWHERE, 0).due(3, "cluster", PLANE, 0).due(3, "cluster", SPACE, 0);
        two.due(0, "bar", 0, 1).due(3, "cluster", ANYWHERE, 0).due(NONE, "cluster", ANYWHERE, 1);
        joints(7).due(NONE, "cluster", ANYWHERE, 0).due(127, "cluster", PLANE, 0).due(NONE, "cluster", PLANE, 1);
        Run pair = with(joints(7), new int[][] {{5, 6}}).due(96, "cluster", ANYWHERE, 0)
                .due(NONE, "cluster", ANYWHERE, 1);
        pair.due(0, "unbar").due(NONE, "cluster", ANYWHERE, 0);
    }

    private static void clustersToWhichNoneCanCome() {
        sentence("to which no other JOINT can come so; told as numbers (bit v for JOINT v)");
        wheel().due(127, "cluster", PLANE, 0).due(NONE, "cluster", PLANE, 1).due(127, "cluster", ANYWHERE, 0)
                .due(NONE, "cluster", ANYWHERE, 1);
        strip().due(127, "cluster", ANYWHERE, 0).due(10, "unbar").due(63, "cluster", ANYWHERE, 0)
                .due(96, "cluster", ANYWHERE, 1).due(NONE, "cluster", ANYWHERE, 2);
        // Two JOINTS with BARS to the same four: each BAR is a CLUSTER.
        Run fan = with(joints(7), new int[][] {{0, 3}, {0, 4}, {0, 5}, {0, 6}, {1, 3}, {1, 4}, {1, 5}, {1, 6}});
        int[] due = {9, 10, 17, 18, 33, 34, 65, 66};
        for (int k = 0; k < 8; k++) {
            fan.due(due[k], "cluster", ANYWHERE, k);
        }
        fan.due(NONE, "cluster", ANYWHERE, 8).dueForEach(NONE, outside(0, 7), 1, "cluster", ANYWHERE, 0);
    }

    private static void polynomialAtTheEdges() {
        sentence("the sum over all SETS s of (x - 1) to the power .., times (y - 1) to the power ..");
        Run none = joints(7);
        Run heap = heap();
        Run strip = strip();
        Run wheel = wheel();
        for (int i = 0; i <= 13; i++) {
            for (int j = 0; j <= 13; j++) {
                none.due(i == 0 && j == 0 ? 1 : 0, "coefficient", ANYWHERE, i, j);
                heap.due(i == 0 && j == 12 ? 1 : 0, "coefficient", PLANE, i, j);
                strip.due(i == 11 && j == 0 ? 1 : 0, "coefficient", ANYWHERE, i, j);
                wheel.due(i > 0 && i < 12 && j == 0 || i == 0 && j == 1 ? 1 : 0, "coefficient", PLANE, i, j);
            }
        }
    }

    // ---- signs ----

    private static void signsMinusOneToOne() {
        sentence("each BAR is a BAR (0), a CABLE (1) or a STRUT (-1)");
        Run x = wheel();
        for (int bar : new int[] {0, 11}) {
            x.due(1, "sign", bar, -1).due(1 << bar, "count", 3).due(0, "count", 2);
            x.due(0, "sign", bar, 1).due(1 << bar, "count", 2).due(0, "count", 3);
            x.dueForEach(BAD, outside(-1, 1), 1, "sign", bar, 0).due(1 << bar, "count", 2).due(0, "count", 3);
            x.due(2, "sign", bar, 0).due(0, "count", 2).due(0, "count", 3).due(1, "sign", bar, 0);
        }
        for (int bar = 0; bar < 12; bar++) {
            x.due(1, "sign", bar, bar < 6 ? 1 : -1);
        }
        x.due(63, "count", 2).due(4032, "count", 3);
        for (int bar = 0; bar < 12; bar++) {
            x.due(bar < 6 ? 2 : 0, "sign", bar, 1);
        }
        x.due(4095, "count", 2).due(0, "count", 3);
        for (int bar = 0; bar < 12; bar++) {
            x.due(2, "sign", bar, -1);
        }
        x.due(0, "count", 2).due(4095, "count", 3);
    }

    private static void stressOfNothing() {
        sentence("A STRESS is a number for each BAR, so that the sum of all ROWS times these is 0 everywhere");
        // Without BARS there is a STRESS, of no numbers; without CABLES and STRUTS, one that is 0 everywhere will do.
        for (int n = 1; n <= 7; n++) {
            joints(n).due(1, "holds", PLANE).due(n > 5 ? BAD : 1, "holds", SPACE);
        }
        Run x = framework(new int[][] {{0, 0}, {2, 0}, {1, 2}}, allPairs(3)).due(1, "holds", PLANE);
        for (int bar = 0; bar < 3; bar++) {
            for (int s = -1; s <= 1; s += 2) {
                x.due(1, "sign", bar, s).due(0, "holds", PLANE).due(s + 1, "sign", bar, 0).due(1, "holds", PLANE);
            }
        }
    }

    private static void holdsOnlyIfRigid() {
        sentence("The framework HOLDS, if it is RIGID");
        Run x = framework(new int[][] {{0, 0}, {2, 0}, {2, 2}, {0, 2}, {4, 4}},
                new int[][] {{0, 1}, {1, 2}, {2, 3}, {0, 3}, {0, 2}, {1, 3}});
        signed(x, 1, 1, 1, 1, -1, -1).due(0, "holds", PLANE).due(0, "rigid", PLANE);
        x.due(6, "bar", 4, 1).due(0, "holds", PLANE).due(7, "bar", 4, 3).due(1, "rigid", PLANE).due(1, "holds", PLANE);
        x.due(1, "sign", 7, 1).due(0, "holds", PLANE).due(2, "sign", 7, 0).due(1, "holds", PLANE)
                .due(1, "holds", SPACE);
        x.due(1, "joint", 4, 4, 4, 1).due(1, "holds", PLANE).due(0, "holds", SPACE).due(0, "rigid", SPACE);
        joints(2).due(1, "joint", 1, 1, 0, 0).due(0, "holds", PLANE).due(0, "bar", 0, 1).due(1, "holds", PLANE);
    }

    private static void holdsAboveAndBelow() {
        sentence("there is a STRESS that is above 0 on each CABLE, below 0 on each STRUT");
        int[] spokesPull = {1, 1, 1, 1, 1, 1, -1, -1, -1, -1, -1, -1};
        int[] rimPulls = {-1, -1, -1, -1, -1, -1, 1, 1, 1, 1, 1, 1};
        signed(wheel(), spokesPull).due(1, "holds", PLANE).due(BAD, "holds", SPACE).due(BAD, "holds", ANYWHERE);
        signed(wheel(), rimPulls).due(1, "holds", PLANE);
        Run x = signed(wheel(), spokesPull);
        for (int bar = 0; bar < 12; bar++) {
            // One BAR the wrong way is enough, at the first as at the last; one without SIGN does no harm.
            x.ask("sign", bar, -spokesPull[bar]);
            x.due(0, "holds", PLANE);
            x.ask("sign", bar, 0);
            x.due(1, "holds", PLANE);
            x.ask("sign", bar, spokesPull[bar]);
            x.due(1, "holds", PLANE);
        }
        Run heap = signed(heap(), 1, -1, 1, -1, 1, -1, 1, -1, 1, -1, 1, -1).due(1, "holds", PLANE);
        heap.due(1, "joint", 6, 0, 0, 4).due(1, "holds", PLANE).due(1, "joint", 6, 4, 0, 0).due(0, "holds", PLANE);
        Run five = signed(five(), 1, 1, 1, -1, 1, 1, -1, 1, -1, -1).due(1, "holds", SPACE);
        five.due(0, "sign", 9, 1).due(0, "holds", SPACE).due(2, "sign", 9, 0).due(1, "holds", SPACE);
    }

    // ---- built, one shape ----

    private static void builtAlone() {
        sentence("one JOINT alone is BUILT");
        new Run().due(0, "built", 0).dueForEach(NONE, outside(0, 0), 0, "built", 0);
        Run x = wheel();
        x.due(7, "begin", 1).due(0, "built", 0).due(NONE, "built", 1).due(NONE, "built", -1);
    }

    private static void builtOfTwo() {
        sentence("the second one with one BAR to the first");
        Run x = joints(2).due(NONE, "built", 0).due(NONE, "built", 1).due(0, "bar", 1, 0);
        x.due(0, "built", 0).due(1, "built", 1).due(NONE, "built", 2).due(NONE, "built", -1);
        x.due(0, "unbar").due(NONE, "built", 0);
        // Without a BAR between the first two, the others' BARS are of no use.
        with(joints(4), new int[][] {{0, 2}, {0, 3}, {1, 2}, {1, 3}}).due(NONE, "built", 0).due(NONE, "built", 3);
    }

    private static void builtWithJustTwo() {
        sentence("each JOINT behind the first two with just two BARS to JOINTS ahead of it");
        Run x = with(joints(3), new int[][] {{0, 1}, {1, 2}}).due(NONE, "built", 0).due(NONE, "built", 2);
        x.due(2, "bar", 0, 2).due(0, "built", 0).due(1, "built", 1).due(2, "built", 2).due(NONE, "built", 3);
        Run four = with(joints(4), Arrays.copyOf(allPairs(4), 5)).due(0, "built", 0).due(3, "built", 3);
        four.due(5, "bar", 2, 3).due(NONE, "built", 0).due(NONE, "built", 3).due(5, "unbar").due(3, "built", 3);
        four.due(4, "unbar").due(NONE, "built", 0);
    }

    private static void builtOfSeven() {
        sentence("a row of all JOINTS");
        Run x = strip();
        for (int i = 0; i < 7; i++) {
            x.due(i, "built", i);
        }
        x.dueForEach(NONE, outside(0, 6), 0, "built", 0);
        x.due(11, "bar", 0, 6);
        for (int i = 0; i < 7; i++) {
            x.due(NONE, "built", i);
        }
        x.due(11, "unbar").due(6, "built", 6).due(10, "unbar").due(NONE, "built", 6).due(NONE, "built", 0);
        Run turned = joints(7);
        for (int[] bar : strip(7)) {
            turned.ask("bar", 6 - bar[0], 6 - bar[1]);
        }
        for (int i = 0; i < 7; i++) {
            turned.due(i, "built", i);
        }
    }

    private static void builtLeast() {
        sentence("THE LEAST one: whose first JOINT is least, then whose second is, and so on");
        // From JOINT 0 only 5 and 6 can come next: the row has to go down again behind them.
        Run x = with(joints(7), new int[][] {{5, 6}, {0, 5}, {0, 6}, {4, 5}, {4, 6}, {3, 4}, {3, 5}, {2, 3}, {2, 4},
            {1, 2}, {1, 3}});
        int[] row = {0, 5, 6, 4, 3, 2, 1};
        for (int i = 0; i < 7; i++) {
            x.due(row[i], "built", i);
        }
        // JOINT 0 hangs on 1 and 4, that have no BAR: it can only come last.
        Run last = with(joints(5), new int[][] {{1, 2}, {1, 3}, {2, 3}, {2, 4}, {3, 4}, {0, 1}, {0, 4}});
        int[] lastRow = {1, 2, 3, 4, 0};
        for (int i = 0; i < 5; i++) {
            last.due(lastRow[i], "built", i);
        }
    }

    private static void oneShapeOfThreeAtMost() {
        sentence("there are at most three JOINTS, and all PAIRS have BARS");
        new Run().due(1, "oneShape");
        joints(2).due(0, "oneShape").due(0, "bar", 0, 1).due(1, "oneShape").due(0, "unbar").due(0, "oneShape");
        joints(3).due(0, "oneShape").due(0, "bar", 0, 1).due(0, "oneShape").due(1, "bar", 1, 2).due(0, "oneShape")
                .due(2, "bar", 0, 2).due(1, "oneShape").due(2, "unbar").due(0, "oneShape");
    }

    private static void oneShapeOfFour() {
        sentence("each BAR is SPARE, it is RIGID");
        Run x = joints(4).due(0, "oneShape");
        for (int i = 0; i < 6; i++) {
            x.due(i, "bar", allPairs(4)[i][0], allPairs(4)[i][1]).due(i == 5 ? 1 : 0, "oneShape");
        }
        // RIGID with a BAR that is not SPARE; and each BAR SPARE, but one JOINT hangs loose.
        with(joints(5), allPairs(4)).due(0, "oneShape").due(6, "bar", 4, 0).due(0, "oneShape").due(7, "bar", 4, 1)
                .due(1, "rigid", ANYWHERE).due(0, "oneShape").due(8, "bar", 4, 2).due(1, "oneShape").due(9, "bar", 4, 3)
                .due(1, "oneShape");
    }

    private static void oneShapeOfSeven() {
        sentence("each BAR is SPARE, it is RIGID: of seven JOINTS twelve BARS at least");
        wheel().due(1, "oneShape").due(11, "unbar").due(0, "oneShape").due(11, "bar", 1, 6).due(1, "oneShape")
                .due(FULL, "bar", 1, 3).due(1, "oneShape");
        strip().due(0, "oneShape").due(11, "bar", 0, 6).due(1, "oneShape");
        joints(7).due(0, "oneShape");
        for (int m = 0; m < 12; m++) {
            with(joints(7), Arrays.copyOf(SPOKES_AND_RIM, m)).due(0, "oneShape");
        }
    }

    private static void oneShapeWithoutAnyTwo() {
        sentence("without any two JOINTS (with all their BARS) what is left hangs together by BARS");
        // Two full fours with two JOINTS in common: each BAR is SPARE, but without these two it falls apart.
        int[][] low = {{0, 1}, {0, 2}, {0, 3}, {1, 2}, {1, 3}, {2, 3}, {0, 4}, {0, 5}, {1, 4}, {1, 5}, {4, 5}};
        int[][] high = new int[low.length][2];
        for (int i = 0; i < low.length; i++) {
            high[i][0] = 5 - low[i][0];
            high[i][1] = 5 - low[i][1];
        }
        with(joints(6), low).due(1, "rigid", ANYWHERE).due(2047, "spare", ANYWHERE).due(0, "oneShape")
                .due(11, "bar", 3, 4).due(1, "oneShape");
        with(joints(6), high).due(1, "rigid", ANYWHERE).due(2047, "spare", ANYWHERE).due(0, "oneShape")
                .due(11, "bar", 2, 1).due(1, "oneShape");
    }

    // ---- refusals ----

    private static void badComesFirst() {
        sentence("BAD (a number is none, or out of its bounds, a SORT that may not be) first");
        Run x = wheel();
        x.due(BAD, "bar", 3, 3).due(BAD, "bar", 0, 7).due(BAD, "bar", -1, 0).due(BAD, "bar", 7, 7)
                .due(BAD, "bar", LEAST, MOST);
        for (int sort : new int[] {-1, 1, 3, LEAST, MOST}) {
            x.due(BAD, "told", sort, 0, 4096).due(BAD, "told", sort, 0, -1).due(BAD, "told", sort, 7, MOST);
            x.due(BAD, "cluster", sort, 1).due(BAD, "cluster", sort, -1).due(BAD, "cluster", sort, MOST);
            x.due(BAD, "coefficient", sort, -1, -1).due(BAD, "coefficient", sort, 13, 13)
                    .due(BAD, "coefficient", sort, MOST, LEAST);
            x.due(BAD, "many", sort, 7).due(BAD, "rank", sort, 4096).due(BAD, "implied", sort, 1, 1, -1);
            x.due(BAD, "stressed", sort, 1, 12).due(BAD, "closure", sort, -1);
        }
        x.due(BAD, "told", PLANE, 7, MOST).due(BAD, "told", PLANE, -1, -1).due(BAD, "told", ANYWHERE, 7, 0);
        x.due(BAD, "stressed", ANYWHERE, 4095, 0).due(BAD, "stressed", ANYWHERE, 4095, 12).due(BAD, "holds", ANYWHERE);
        Run none = joints(7);
        none.due(BAD, "told", PLANE, 7, 0).due(BAD, "told", 3, 2, 0).due(BAD, "cluster", 1, 0)
                .due(NONE, "told", PLANE, 2, 0);
    }

    private static void thereComesBeforeFull() {
        sentence("then what a call names, in the order named");
        Run x = wheel();
        for (int[] pair : SPOKES_AND_RIM) {
            x.due(THERE, "bar", pair[0], pair[1]).due(THERE, "bar", pair[1], pair[0]);
        }
        for (int[] pair : new int[][] {{1, 3}, {1, 4}, {1, 5}, {2, 4}, {2, 5}, {2, 6}, {3, 5}, {3, 6}, {4, 6}}) {
            x.due(FULL, "bar", pair[0], pair[1]).due(FULL, "bar", pair[1], pair[0]);
        }
        x.due(12, "count", 1);
    }

    private static void refusedChangesNothing() {
        sentence("What is refused changes nothing");
        for (int state = 0; state < 7; state++) {
            int[] before = view(state(state));
            for (Object[] call : refusedCalls(state(state))) {
                String name = (String) call[0];
                int[] numbers = (int[]) call[1];
                Run x = state(state);
                x.due((int) call[2], name, numbers);
                int[] after = view(x);
                if (!Arrays.equals(before, after)) {
                    fault(form(name, numbers) + " changed something, behind " + x.calls);
                }
            }
        }
    }

    private static Run state(int which) {
        switch (which) {
            case 0: return new Run();
            case 1: return joints(7);
            case 2: return signed(wheel(), 1, 1, 0, 1, 1, 1, -1, -1, 0, -1, -1, -1);
            case 3: return signed(five(), 1, 0, 1, -1, 1, 1, -1, 1, -1, -1);
            case 4: return signed(square(), 0, 1, 1, 0, -1, 0);
            case 5: return signed(heap(), -1, 0, 1);
            default: return framework(new int[][] {{4, -4, 4}, {-4, 4, 1}, {-2, -2, -2}}, new int[][] {{2, 0}, {1, 2}});
        }
    }

    /** Each call with one number out of its bounds after the other, the others being fine, and what it is to answer. */
    private static List<Object[]> refusedCalls(Run x) {
        int n = x.ask("count", 0);
        int m = x.ask("count", 1);
        int all = (1 << m) - 1;
        List<Object[]> calls = new ArrayList<>();
        addBad(calls, "begin", new int[] {1}, new int[][] {{1, 7}});
        addBad(calls, "joint", new int[] {n - 1, 3, -3, 2}, new int[][] {{0, n - 1}, {-4, 4}, {-4, 4}, {-4, 4}});
        addBad(calls, "bar", new int[] {0, 0}, new int[][] {{0, n - 1}, {0, n - 1}});
        addBad(calls, "sign", new int[] {0, 0}, new int[][] {{0, m - 1}, {-1, 1}});
        addBad(calls, "sign", new int[] {m - 1, -1}, new int[][] {{0, m - 1}, {-1, 1}});
        addBad(calls, "count", new int[] {0}, new int[][] {{0, 3}});
        addBad(calls, "end", new int[] {m - 1, 1}, new int[][] {{0, m - 1}, {0, 1}});
        addBad(calls, "at", new int[] {n - 1, 2}, new int[][] {{0, n - 1}, {0, 2}});
        addBad(calls, "rank", new int[] {ANYWHERE, all}, new int[][] {{0, 2}, {0, all}});
        addBad(calls, "closure", new int[] {PLANE, 0}, new int[][] {{0, 2}, {0, all}});
        addBad(calls, "implied", new int[] {PLANE, 0, n - 1, all},
                new int[][] {{0, 2}, {0, n - 1}, {0, n - 1}, {0, all}});
        addBad(calls, "told", new int[] {PLANE, 2, 0}, new int[][] {{0, 2}, {0, 6}, {LEAST, MOST}});
        addBad(calls, "stressed", new int[] {PLANE, all, 0}, new int[][] {{0, 1}, {0, all}, {0, m - 1}});
        for (String name : new String[] {"rigid", "lacks", "spare", "holds"}) {
            addBad(calls, name, new int[] {0}, new int[][] {{0, 2}});
        }
        addBad(calls, "many", new int[] {PLANE, 0}, new int[][] {{0, 2}, {0, 6}});
        addBad(calls, "coefficient", new int[] {PLANE, 1, 0}, new int[][] {{0, 2}, {LEAST, MOST}, {LEAST, MOST}});
        addBad(calls, "cluster", new int[] {PLANE, 0}, new int[][] {{0, 2}, {LEAST, MOST}});
        calls.add(new Object[] {"bar", new int[] {n - 1, n - 1}, BAD});
        calls.add(new Object[] {"holds", new int[] {ANYWHERE}, BAD});
        calls.add(new Object[] {"built", new int[] {n}, NONE});
        calls.add(new Object[] {"cluster", new int[] {ANYWHERE, 99}, NONE});
        calls.add(new Object[] {"told", new int[] {PLANE, 0, 5000}, NONE});
        if (n > 5) {
            calls.add(new Object[] {"rank", new int[] {SPACE, 0}, BAD});
            calls.add(new Object[] {"holds", new int[] {SPACE}, BAD});
        }
        if (m == 0) {
            calls.add(new Object[] {"unbar", new int[0], NONE});
        } else {
            calls.add(new Object[] {"bar", new int[] {x.ask("end", m - 1, 0), x.ask("end", m - 1, 1)}, THERE});
        }
        if (m == 12) {
            calls.add(new Object[] {"bar", new int[] {6, 2}, FULL});
        }
        return calls;
    }

    private static void addBad(List<Object[]> calls, String name, int[] fine, int[][] bounds) {
        for (int place = 0; place < fine.length; place++) {
            int least = bounds[place][0];
            int most = bounds[place][1];
            if (least == LEAST && most == MOST) {
                continue;
            }
            for (int number : new int[] {least - 1, most + 1, LEAST, MOST}) {
                int[] numbers = fine.clone();
                numbers[place] = number;
                calls.add(new Object[] {name, numbers, BAD});
            }
        }
    }

    /** What an object shows, then what it shows behind some changes. */
    private static int[] view(Run x) {
        List<Integer> seen = new ArrayList<>();
        look(x, seen);
        look(x, seen);
        for (int[] change : new int[][] {{0, 1}, {1, 2}, {5, 6}}) {
            seen.add(x.ask("bar", change[0], change[1]));
        }
        seen.add(x.ask("sign", 1, 1));
        seen.add(x.ask("joint", 0, 3, 2, 1));
        look(x, seen);
        seen.add(x.ask("unbar"));
        seen.add(x.ask("count", 1));
        seen.add(x.ask("begin", 3));
        seen.add(x.ask("at", 2, 0));
        seen.add(x.ask("bar", 2, 1));
        seen.add(x.ask("sign", 0, 1));
        return seen.stream().mapToInt(v -> v).toArray();
    }

    private static void look(Run x, List<Integer> seen) {
        int n = x.ask("count", 0);
        int m = x.ask("count", 1);
        int all = (1 << m) - 1;
        seen.addAll(List.of(n, m, x.ask("count", 2), x.ask("count", 3), x.ask("built", n - 1), x.ask("oneShape")));
        for (int v = 0; v < n; v++) {
            seen.addAll(List.of(x.ask("at", v, 0), x.ask("at", v, 1), x.ask("at", v, 2)));
        }
        for (int bar = 0; bar < m; bar++) {
            seen.addAll(List.of(x.ask("end", bar, 0), x.ask("end", bar, 1)));
        }
        for (int sort = 0; sort < 3; sort++) {
            seen.addAll(List.of(x.ask("rank", sort, all), x.ask("closure", sort, all / 2), x.ask("lacks", sort)));
            seen.addAll(List.of(x.ask("spare", sort), x.ask("many", sort, 0), x.ask("many", sort, 5)));
            seen.add(x.ask("told", sort, 2, 0));
            seen.addAll(List.of(x.ask("coefficient", sort, 1, 0), x.ask("cluster", sort, 0), x.ask("rigid", sort)));
            seen.addAll(List.of(x.ask("implied", sort, 0, n - 1, all), x.ask("holds", sort), x.ask("told", sort, 4, 1)));
            seen.add(x.ask("stressed", sort, x.ask("told", sort, 2, 0), m - 1));
        }
    }

    private static void refusedInTheMiddle() {
        sentence("What is refused changes nothing: not even the numbers ahead of the one that is out of its bounds");
        Run x = framework(new int[][] {{1, 2, 3}, {-1, -2, -3}}, new int[][] {{0, 1}});
        x.due(1, "sign", 0, 1);
        for (int far : outside(-4, 4)) {
            x.due(BAD, "joint", 1, far, 0, 0).due(BAD, "joint", 1, 0, far, 0).due(BAD, "joint", 1, 0, 0, far);
            x.due(-1, "at", 1, 0).due(-2, "at", 1, 1).due(-3, "at", 1, 2);
        }
        x.due(0, "joint", 1, -1, -2, -3).due(0, "joint", 0, 1, 2, 3);
        for (int far : outside(1, 7)) {
            x.due(BAD, "begin", far).due(1, "count", 1).due(1, "count", 2).due(3, "at", 0, 2);
        }
        x.due(BAD, "sign", 0, 2).due(BAD, "sign", 1, 0).due(2, "sign", 0, 1);
        Run full = wheel().due(FULL, "bar", 1, 3).due(FULL, "bar", 2, 4).due(11, "unbar").due(11, "bar", 1, 3)
                .due(FULL, "bar", 1, 6);
        full.due(1, "end", 11, 0).due(3, "end", 11, 1);
        Run none = joints(2).due(NONE, "unbar").due(NONE, "unbar").due(0, "count", 1).due(0, "bar", 0, 1)
                .due(0, "unbar");
        none.due(NONE, "unbar").due(0, "bar", 1, 0).due(0, "end", 0, 0);
    }

    // ---- promise by promise ----

    private static void newObject() {
        sentence("Promise 1: One JOINT at (0, 0, 0), no BARS");
        Run x = new Run();
        x.due(1, "count", 0).due(0, "count", 1).due(0, "count", 2).due(0, "count", 3);
        x.due(0, "at", 0, 0).due(0, "at", 0, 1).due(0, "at", 0, 2).due(BAD, "at", 1, 0).due(BAD, "end", 0, 0);
        new Run().due(NONE, "unbar");
        new Run().due(0, "joint", 0, 0, 0, 0).due(1, "joint", 0, 0, 0, 1);
        new Run().due(BAD, "joint", 1, 0, 0, 0).due(BAD, "sign", 0, 0).due(BAD, "bar", 0, 1);
        new Run().due(1, "begin", 7);
        // What one object does is nothing to another.
        Run other = new Run();
        x.due(1, "begin", 7).due(0, "bar", 0, 1).due(1, "joint", 0, 1, 1, 1);
        other.due(1, "count", 0).due(0, "count", 1).due(0, "at", 0, 0);
    }

    private static void begin() {
        sentence("Promise 2: So many JOINTS, 1 .. 7, all at (0, 0, 0), no BARS: how many there were. BAD.");
        for (int n = 1; n <= 7; n++) {
            Run x = signed(wheel(), 1, -1, 0, 0, 0, 0, 0, 0, 0, 0, 1, -1);
            for (int v = 0; v < 7; v++) {
                x.ask("joint", v, 4, -4, v - 3);
            }
            x.due(7, "begin", n).due(n, "count", 0).due(0, "count", 1).due(0, "count", 2).due(0, "count", 3);
            for (int v = 0; v < 7; v++) {
                for (int way = 0; way < 3; way++) {
                    x.due(v < n ? 0 : BAD, "at", v, way);
                }
            }
            x.due(BAD, "end", 0, 0).due(BAD, "sign", 0, 0).due(NONE, "unbar").due(n, "begin", 7).due(7, "begin", 7);
            // No place and no SIGN of before comes back.
            for (int v = 0; v < 7; v++) {
                x.due(0, "at", v, 0).due(0, "at", v, 1).due(0, "at", v, 2);
            }
            for (int i = 0; i < 12; i++) {
                x.due(i, "bar", SPOKES_AND_RIM[i][0], SPOKES_AND_RIM[i][1]).due(1, "sign", i, 0);
            }
            x.due(0, "rank", PLANE, 4095).due(11, "rank", ANYWHERE, 4095);
        }
        Run x = wheel().due(BAD, "begin", 0).due(BAD, "begin", 8).due(BAD, "begin", LEAST).due(BAD, "begin", MOST);
        x.due(7, "count", 0).due(12, "count", 1).due(11, "rank", PLANE, 4095);
    }

    private static void joint() {
        sentence("Promise 3: A JOINT is elsewhere: 1 if it was at another place, else 0. BAD.");
        Run x = joints(7);
        for (int v : new int[] {0, 6}) {
            x.due(0, "joint", v, 0, 0, 0).due(1, "joint", v, 1, 0, 0).due(1, "joint", v, 1, 1, 0)
                    .due(1, "joint", v, 1, 1, 1);
            x.due(0, "joint", v, 1, 1, 1).due(1, "joint", v, 1, 1, -1).due(1, "joint", v, 1, -1, -1)
                    .due(1, "joint", v, -1, -1, -1);
            x.due(1, "joint", v, 4, 4, 4).due(1, "joint", v, -4, -4, -4).due(0, "joint", v, -4, -4, -4);
            x.due(-4, "at", v, 0).due(-4, "at", v, 1).due(-4, "at", v, 2);
        }
        x.due(0, "joint", 3, 0, 0, 0).due(BAD, "joint", 7, 0, 0, 0).due(BAD, "joint", -1, 0, 0, 0);
        x.due(BAD, "joint", 0, 5, 0, 0).due(BAD, "joint", 0, -5, 0, 0).due(BAD, "joint", 0, 0, 5, 0)
                .due(BAD, "joint", 0, 0, -5, 0);
        x.due(BAD, "joint", 0, 0, 0, 5).due(BAD, "joint", 0, 0, 0, -5).due(-4, "at", 0, 0).due(0, "at", 5, 0)
                .due(0, "at", 1, 2);
        // A move is felt by what was asked before it, and a move back as well.
        Run square = square().due(5, "rank", PLANE, 63).due(2, "stressed", PLANE, 63, 3).due(1, "joint", 3, 1, 1, 0);
        square.due(5, "rank", PLANE, 63).due(BAD, "stressed", PLANE, 63, 3).due(1, "joint", 3, 0, 2, 0)
                .due(2, "stressed", PLANE, 63, 3);
    }

    private static void bar() {
        sentence("Promise 4: A BAR more, its SIGN 0: its number. BAD: also both are the same; THERE: it is there; FULL.");
        Run x = joints(7).due(0, "bar", 6, 0).due(0, "end", 0, 0).due(6, "end", 0, 1).due(1, "sign", 0, 1);
        x.due(THERE, "bar", 0, 6).due(THERE, "bar", 6, 0).due(1, "count", 2).due(0, "unbar").due(0, "bar", 0, 6)
                .due(0, "count", 2);
        x.due(BAD, "bar", 0, 0).due(BAD, "bar", 6, 6).due(BAD, "bar", 0, 7).due(BAD, "bar", 7, 0)
                .due(BAD, "bar", -1, 6);
        x.due(BAD, "bar", 6, -1).due(BAD, "bar", LEAST, 0).due(BAD, "bar", 0, LEAST).due(BAD, "bar", MOST, 0)
                .due(BAD, "bar", 0, MOST);
        x.due(1, "count", 1);
        Run full = wheel().due(12, "count", 1).due(FULL, "bar", 1, 3).due(THERE, "bar", 6, 1).due(BAD, "bar", 1, 1);
        full.due(BAD, "bar", 1, 7).due(12, "count", 1).due(0, "count", 2);
        // Six JOINTS have fifteen PAIRS and five have ten: only the former can be FULL.
        Run six = joints(6);
        for (int i = 0; i < 15; i++) {
            six.due(i < 12 ? i : FULL, "bar", allPairs(6)[i][0], allPairs(6)[i][1]);
        }
        Run five = five().due(10, "count", 1);
        for (int[] pair : allPairs(5)) {
            five.due(THERE, "bar", pair[0], pair[1]);
        }
    }

    private static void unbar() {
        sentence("Promise 5: The last BAR goes: how many are left. NONE: there is none.");
        Run x = signed(wheel(), 0, 0, 0, 0, 0, 0, 0, 0, 0, 0, 1, -1);
        x.due(1024, "count", 2).due(2048, "count", 3).due(11, "unbar").due(0, "count", 3).due(1024, "count", 2);
        x.due(BAD, "end", 11, 0).due(BAD, "sign", 11, 0).due(11, "bar", 6, 1).due(1, "sign", 11, 0).due(0, "count", 3);
        for (int left = 11; left >= 0; left--) {
            x.due(left, "unbar").due(left, "count", 1);
        }
        x.due(NONE, "unbar").due(NONE, "unbar").due(0, "count", 1).due(7, "count", 0).due(3, "at", 1, 0)
                .due(0, "bar", 0, 1);
        x.due(0, "unbar").due(NONE, "unbar");
        new Run().due(NONE, "unbar").due(1, "count", 0);
    }

    private static void sign() {
        sentence("Promise 6: A BAR'S SIGN, -1 .. 1: what it was, and 1 (0 .. 2). BAD.");
        Run x = wheel();
        for (int bar : new int[] {0, 11}) {
            x.due(1, "sign", bar, -1).due(0, "sign", bar, -1).due(0, "sign", bar, 0).due(1, "sign", bar, 1)
                    .due(2, "sign", bar, 1);
            x.due(2, "sign", bar, -1).due(0, "sign", bar, 1).due(BAD, "sign", bar, 2).due(BAD, "sign", bar, -2)
                    .due(2, "sign", bar, 0);
            x.due(1, "sign", bar, 0);
        }
        x.dueForEach(BAD, outside(0, 11), 0, "sign", 0, 1).dueForEach(BAD, outside(-1, 1), 1, "sign", 11, 1);
        x.due(0, "count", 2).due(0, "count", 3);
        joints(7).dueForEach(BAD, new int[] {-1, 0, 1, LEAST, MOST}, 0, "sign", 0, 1);
    }

    private static void count() {
        sentence("Promise 7: What = 0 JOINTS, 1 BARS; 2 the SET of CABLES, 3 of STRUTS. BAD.");
        Run x = signed(wheel(), 1, -1, 0, 1, -1, 0, 1, -1, 0, 0, 1, -1);
        x.due(7, "count", 0).due(12, "count", 1).due(0x449, "count", 2).due(0x892, "count", 3);
        x.dueForEach(BAD, outside(0, 3), 0, "count", 0);
        new Run().due(1, "count", 0).due(0, "count", 1).due(0, "count", 2).due(0, "count", 3).due(BAD, "count", 4)
                .due(BAD, "count", -1);
        signed(wheel(), 1, 1, 1, 1, 1, 1, 1, 1, 1, 1, 1, 1).due(4095, "count", 2).due(0, "count", 3);
    }

    private static void end() {
        sentence("Promise 8: End 0 or 1 (the greater JOINT) of a BAR. BAD.");
        Run x = joints(7).due(0, "bar", 6, 5).due(1, "bar", 5, 0).due(2, "bar", 0, 6);
        x.due(5, "end", 0, 0).due(6, "end", 0, 1).due(0, "end", 1, 0).due(5, "end", 1, 1).due(0, "end", 2, 0)
                .due(6, "end", 2, 1);
        x.dueForEach(BAD, outside(0, 2), 0, "end", 0, 0).dueForEach(BAD, outside(0, 1), 1, "end", 2, 0);
        wheel().due(1, "end", 11, 0).due(6, "end", 11, 1).due(BAD, "end", 12, 0).due(BAD, "end", 11, 2)
                .due(BAD, "end", 11, -1);
        joints(7).due(BAD, "end", 0, 0).due(BAD, "end", 0, 1).due(BAD, "end", -1, 0);
    }

    private static void at() {
        sentence("Promise 9: Way 0 .. 2 of a JOINT'S place. BAD. (An answer -2 may be a place.)");
        Run x = joints(7).due(1, "joint", 6, -2, -4, 4).due(1, "joint", 0, 4, -2, -1);
        x.due(-2, "at", 6, 0).due(-4, "at", 6, 1).due(4, "at", 6, 2).due(4, "at", 0, 0).due(-2, "at", 0, 1)
                .due(-1, "at", 0, 2);
        x.due(0, "at", 1, 0).due(0, "at", 5, 2);
        x.dueForEach(BAD, outside(0, 6), 0, "at", 0, 0).dueForEach(BAD, outside(0, 2), 1, "at", 6, 0)
                .dueForEach(BAD, outside(0, 2), 1, "at", 0, 0);
    }

    private static void rank() {
        sentence("Promise 10: THE RANK of a SET. BAD: the SORT, or it is none.");
        Run x = wheel().due(0, "rank", PLANE, 0).due(1, "rank", PLANE, 2048).due(11, "rank", PLANE, 2047)
                .due(11, "rank", PLANE, 4095);
        x.due(0, "rank", ANYWHERE, 0).due(1, "rank", ANYWHERE, 2048).due(11, "rank", ANYWHERE, 4095)
                .due(BAD, "rank", SPACE, 0);
        x.due(BAD, "rank", PLANE, 4096).due(BAD, "rank", PLANE, -1).due(BAD, "rank", ANYWHERE, 4096)
                .due(BAD, "rank", ANYWHERE, -1);
        x.due(BAD, "rank", -1, 0).due(BAD, "rank", 3, 0).due(BAD, "rank", LEAST, 0).due(BAD, "rank", MOST, 0);
        x.due(BAD, "rank", PLANE, LEAST).due(BAD, "rank", ANYWHERE, MOST);
        heap().due(0, "rank", PLANE, 4095);
        five().due(9, "rank", SPACE, 1023).due(9, "rank", SPACE, 511).due(BAD, "rank", SPACE, 1024)
                .due(BAD, "rank", SPACE, -1)
                .due(7, "rank", PLANE, 1023).due(7, "rank", ANYWHERE, 1023);
    }

    private static void closure() {
        sentence("Promise 11: All BARS that are IMPLIED by a SET, as a SET. BAD.");
        Run x = wheel().due(0, "closure", PLANE, 0).due(4095, "closure", PLANE, 4095).due(4095, "closure", PLANE, 2047);
        x.due(1023, "closure", PLANE, 1023).due(4095, "closure", ANYWHERE, 4094).due(2048, "closure", ANYWHERE, 2048);
        x.due(BAD, "closure", PLANE, 4096).due(BAD, "closure", PLANE, -1).due(BAD, "closure", ANYWHERE, LEAST)
                .due(BAD, "closure", PLANE, MOST);
        x.due(BAD, "closure", SPACE, 0).due(BAD, "closure", 3, 0).due(BAD, "closure", -1, 0);
        heap().due(4095, "closure", PLANE, 0).due(4095, "closure", PLANE, 1).due(0, "closure", ANYWHERE, 0);
        five().due(1023, "closure", SPACE, 1022).due(510, "closure", SPACE, 510).due(1023, "closure", PLANE, 255)
                .due(BAD, "closure", SPACE, 1024);
        joints(7).due(0, "closure", PLANE, 0).due(BAD, "closure", PLANE, 1);
    }

    private static void implied() {
        sentence("Promise 12: Whether a PAIR is IMPLIED by a SET (1 or 0). BAD: also both are the same.");
        Run x = wheel().due(1, "implied", PLANE, 1, 4, 4095).due(1, "implied", PLANE, 6, 3, 2047)
                .due(0, "implied", PLANE, 1, 6, 1023);
        for (int sort : new int[] {PLANE, ANYWHERE}) {
            x.due(0, "implied", sort, 0, 6, 0).due(1, "implied", sort, 0, 6, 32).due(0, "implied", sort, 1, 6, 1024)
                    .due(1, "implied", sort, 6, 1, 2048);
            x.due(BAD, "implied", sort, 0, 0, 4095).due(BAD, "implied", sort, 6, 6, 0)
                    .due(BAD, "implied", sort, 0, 7, 0);
            x.due(BAD, "implied", sort, 7, 0, 0).due(BAD, "implied", sort, -1, 0, 0)
                    .due(BAD, "implied", sort, 0, -1, 0);
            x.due(BAD, "implied", sort, 7, 7, 0).due(BAD, "implied", sort, 0, 1, 4096)
                    .due(BAD, "implied", sort, 0, 1, -1);
            x.due(BAD, "implied", sort, 0, 1, LEAST).due(BAD, "implied", sort, 0, 1, MOST)
                    .due(BAD, "implied", sort, LEAST, 1, 0);
        }
        x.due(BAD, "implied", SPACE, 0, 1, 1).due(BAD, "implied", 3, 0, 1, 1).due(BAD, "implied", -1, 0, 1, 1);
        five().due(1, "implied", SPACE, 0, 4, 1023 - 8).due(0, "implied", SPACE, 0, 4, 1023 - 9)
                .due(BAD, "implied", SPACE, 0, 5, 0);
        new Run().due(BAD, "implied", PLANE, 0, 0, 0).due(BAD, "implied", ANYWHERE, 0, 1, 0);
    }

    private static void rigid() {
        sentence("Promise 13: Whether it is RIGID (1 or 0). BAD.");
        Run x = wheel().due(1, "rigid", PLANE).due(1, "rigid", ANYWHERE).due(BAD, "rigid", SPACE);
        x.dueForEach(BAD, outside(0, 2), 0, "rigid", 0);
        heap().due(1, "rigid", PLANE).due(1, "joint", 6, 1, 0, 0).due(0, "rigid", PLANE).due(1, "rigid", ANYWHERE);
        Run five = five().due(1, "rigid", SPACE).due(9, "unbar").due(1, "rigid", SPACE).due(8, "unbar")
                .due(0, "rigid", SPACE);
        five.due(1, "rigid", PLANE);
        joints(7).due(0, "rigid", ANYWHERE).due(1, "rigid", PLANE);
    }

    private static void lacks() {
        sentence("Promise 14: How many PAIRS would have to be put in .., each raising THE RANK, till it is RIGID. BAD.");
        for (int m = 0; m <= 12; m++) {
            Run x = framework(HEXAGON, Arrays.copyOf(SPOKES_AND_RIM, m));
            x.due(Math.max(11 - m, 0), "lacks", PLANE).due(Math.max(11 - m, 0), "lacks", ANYWHERE)
                    .due(BAD, "lacks", SPACE);
        }
        for (int n = 1; n <= 7; n++) {
            joints(n).due(n == 1 ? 0 : 2 * n - 3, "lacks", ANYWHERE).due(0, "lacks", PLANE)
                    .due(n > 5 ? BAD : 0, "lacks", SPACE);
        }
        int[][] places = {{0, 0, 0}, {4, 0, 0}, {0, 4, 0}, {0, 0, 4}, {1, 1, 1}};
        int[] inSpace = {0, 1, 3, 6, 9};
        for (int n = 1; n <= 5; n++) {
            framework(Arrays.copyOf(places, n), new int[0][]).due(inSpace[n - 1], "lacks", SPACE);
        }
        // On a line each JOINT wants one BAR.
        framework(new int[][] {{-4, -4}, {-3, -3}, {-2, -2}, {0, 0}, {1, 1}, {3, 3}, {4, 4}}, new int[0][])
                .due(6, "lacks", PLANE)
                .due(11, "lacks", ANYWHERE);
        wheel().dueForEach(BAD, outside(0, 2), 0, "lacks", 0);
    }

    private static void spare() {
        sentence("Promise 15: The SET of BARS that are SPARE. BAD.");
        new Run().due(0, "spare", PLANE).due(0, "spare", SPACE).due(0, "spare", ANYWHERE)
                .dueForEach(BAD, outside(0, 2), 0, "spare", 0);
        wheel().due(4095, "spare", PLANE).due(BAD, "spare", SPACE).due(4095, "spare", ANYWHERE);
        // Only the last BAR, and only the first one, is not SPARE.
        with(joints(5), allPairs(4)).due(6, "bar", 4, 0).due(63, "spare", ANYWHERE);
        with(with(joints(5), new int[][] {{4, 0}}), allPairs(4)).due(126, "spare", ANYWHERE).due(127, "spare", PLANE);
    }

    private static void many() {
        sentence("Promise 16: How many: what = 0 .. 6 .. BAD.");
        manyAre(wheel(), PLANE, 4095, 12, 1, 13, 1, 4084, 66);
        manyAre(wheel(), ANYWHERE, 4095, 12, 1, 13, 1, 4084, 66);
        manyAre(heap(), PLANE, 1, 1, 12, 4096, 12, 1, 0);
        manyAre(strip(), ANYWHERE, 2048, 1, 0, 1, 11, 2048, 11);
        manyAre(five(), SPACE, 1023, 10, 1, 11, 1, 1014, 45);
        manyAre(new Run(), SPACE, 1, 1, 0, 1, 0, 1, 0);
        manyAre(with(joints(2), new int[][] {{0, 1}}), ANYWHERE, 2, 1, 0, 1, 1, 2, 1);
        manyAre(with(joints(2), new int[][] {{0, 1}}), PLANE, 1, 1, 1, 2, 1, 1, 0);
        for (int sort : outside(0, 2)) {
            manyAre(new Run(), sort, BAD, BAD, BAD, BAD, BAD, BAD, BAD);
        }
        manyAre(wheel(), SPACE, BAD, BAD, BAD, BAD, BAD, BAD, BAD);
    }

    private static void manyAre(Run x, int sort, int... wants) {
        for (int what = 0; what < 7; what++) {
            x.due(wants[what], "many", sort, what);
        }
        x.dueForEach(BAD, outside(0, 6), 1, "many", sort, 0);
    }

    private static void told() {
        sentence("Promise 17: SET k, by rising numbers .. NONE: there are not so many. BAD: the SORT, what.");
        Run[] frameworks = {wheel(), heap(), strip(), square()};
        for (Run x : frameworks) {
            for (int what = 0; what < 7; what++) {
                lastIsTold(x, PLANE, what);
                lastIsTold(x, ANYWHERE, what);
            }
        }
        Run closed = wheel().due(0, "told", PLANE, 5, 0).due(4095, "told", PLANE, 5, 4083)
                .due(NONE, "told", PLANE, 5, 4084);
        closed.due(3, "told", PLANE, 6, 0).due(3072, "told", PLANE, 6, 65).due(NONE, "told", PLANE, 6, 66);
        heap().due(4095, "told", PLANE, 5, 0).due(NONE, "told", PLANE, 5, 1).due(NONE, "told", PLANE, 6, 0);
        strip().due(1, "told", ANYWHERE, 6, 0).due(1024, "told", ANYWHERE, 6, 10).due(NONE, "told", ANYWHERE, 6, 11);
        five().due(1023, "told", SPACE, 2, 0).due(NONE, "told", SPACE, 2, 1).due(511, "told", SPACE, 1, 0)
                .due(1022, "told", SPACE, 1, 9);
        square().dueForEach(BAD, outside(0, 2), 0, "told", 0, 0, 0).dueForEach(BAD, outside(0, 6), 1, "told", 0, 0, 0);
    }

    /** The last of a kind is told, and nothing beyond it on either side. */
    private static void lastIsTold(Run x, int sort, int what) {
        int many = x.ask("many", sort, what);
        if (many > 0 && x.ask("told", sort, what, many - 1) < 0) {
            fault(form("told", sort, what, many - 1) + " told nothing, behind " + x.calls);
        }
        if (many > 1 && what != 4 && x.ask("told", sort, what, many - 2) >= x.ask("told", sort, what, many - 1)) {
            fault(form("told", sort, what, many - 1) + " is not above the one before, behind " + x.calls);
        }
        int[] beyond = {many, many + 1, -1, -2, LEAST, MOST, LEAST + Math.max(many - 1, 0)};
        x.dueForEach(NONE, beyond, 2, "told", sort, what, 0);
    }

    private static void coefficient() {
        sentence("Promise 18: The COEFFICIENT at x to the i, y to the j (0: there is none such). BAD: the SORT.");
        for (int place = 1; place <= 2; place++) {
            wheel().dueForEach(0, outside(0, 12), place, "coefficient", PLANE, 0, 0).due(1, "coefficient", PLANE, 11, 0)
                    .due(1, "coefficient", PLANE, 0, 1);
            heap().dueForEach(0, outside(0, 12), place, "coefficient", PLANE, 0, 0).due(1, "coefficient", PLANE, 0, 12);
            heap().dueForEach(0, outside(0, 12), 1, "coefficient", PLANE, 0, 12).due(1, "coefficient", PLANE, 0, 12);
        }
        wheel().due(0, "coefficient", PLANE, LEAST, MOST).due(0, "coefficient", PLANE, MOST, MOST)
                .due(0, "coefficient", ANYWHERE, -1, -1);
        wheel().due(BAD, "coefficient", SPACE, 0, 0).due(BAD, "coefficient", SPACE, -1, 13)
                .dueForEach(BAD, outside(0, 2), 0, "coefficient", 0, 11, 0);
        Run five = five().due(1, "coefficient", SPACE, 9, 0).due(0, "coefficient", SPACE, 10, 0)
                .due(1, "coefficient", SPACE, 0, 1);
        five.due(0, "coefficient", SPACE, 0, 0).due(0, "coefficient", SPACE, 0, 2).due(0, "coefficient", SPACE, 1, 1);
        new Run().due(1, "coefficient", PLANE, 0, 0).due(1, "coefficient", SPACE, 0, 0)
                .due(1, "coefficient", ANYWHERE, 0, 0);
    }

    private static void cluster() {
        sentence("Promise 19: CLUSTER k, by rising numbers; NONE. BAD: the SORT.");
        // A star with a BAR to each other JOINT: six CLUSTERS of two.
        Run star = framework(HEXAGON, Arrays.copyOf(SPOKES_AND_RIM, 6));
        for (int k = 0; k < 6; k++) {
            star.due(1 | 2 << k, "cluster", ANYWHERE, k);
        }
        star.dueForEach(NONE, outside(0, 5), 1, "cluster", ANYWHERE, 0);
        // In the PLANE JOINTS 1 and 4, 2 and 5, 3 and 6 lie on lines through JOINT 0.
        star.due(1 | 1 << 1 | 1 << 4, "cluster", PLANE, 0).due(1 | 1 << 2 | 1 << 5, "cluster", PLANE, 1);
        star.due(1 | 1 << 3 | 1 << 6, "cluster", PLANE, 2).due(NONE, "cluster", PLANE, 3)
                .due(NONE, "cluster", PLANE, -1);
        star.dueForEach(BAD, outside(0, 2), 0, "cluster", 0, 0).due(BAD, "cluster", SPACE, 0)
                .due(BAD, "cluster", SPACE, 99);
        five().due(31, "cluster", SPACE, 0).due(NONE, "cluster", SPACE, 1).due(NONE, "cluster", SPACE, LEAST)
                .due(NONE, "cluster", SPACE, MOST);
    }

    private static void stressed() {
        sentence("Promise 20: The SIGN .. its least BAR'S being above 0. BAD: also SORT 2, .. no CIRCUIT, or the BAR is none ..");
        Run x = wheel();
        for (int bar = 0; bar < 12; bar++) {
            x.due(bar < 6 ? 2 : 0, "stressed", PLANE, 4095, bar);
        }
        x.dueForEach(BAD, outside(0, 11), 2, "stressed", PLANE, 4095, 0);
        x.dueForEach(BAD, outside(0, 4095), 1, "stressed", PLANE, 4095, 0);
        x.dueForEach(BAD, new int[] {0, 1, 2048, 2047, 4094}, 1, "stressed", PLANE, 4095, 0);
        x.dueForEach(BAD, new int[] {-1, 1, 2, 3, LEAST, MOST}, 0, "stressed", PLANE, 4095, 0);
        Run turned = framework(HEXAGON, new int[][] {{1, 2}, {2, 3}, {3, 4}, {4, 5}, {5, 6}, {1, 6}, {0, 1}, {0, 2},
            {0, 3}, {0, 4}, {0, 5}, {0, 6}});
        for (int bar = 0; bar < 12; bar++) {
            turned.due(bar < 6 ? 2 : 0, "stressed", PLANE, 4095, bar);
        }
        Run five = five();
        for (int bar = 0; bar < 10; bar++) {
            boolean toInner = allPairs(5)[bar][1] == 4;
            five.due(toInner ? 0 : 2, "stressed", SPACE, 1023, bar).due(BAD, "stressed", ANYWHERE, 1023, bar);
        }
        five.due(BAD, "stressed", SPACE, 1023, 10).due(BAD, "stressed", SPACE, 1023, -1)
                .due(BAD, "stressed", SPACE, 1024, 0);
        // A BAR outside the CIRCUIT has 0; beyond the last BAR it is BAD.
        Run heap = heap();
        for (int bar = 0; bar < 12; bar++) {
            heap.due(bar == 11 ? 2 : 1, "stressed", PLANE, 2048, bar).due(bar == 0 ? 2 : 1, "stressed", PLANE, 1, bar);
        }
        heap.due(BAD, "stressed", PLANE, 2048, 12).due(11, "unbar").due(BAD, "stressed", PLANE, 2048, 0)
                .due(BAD, "stressed", PLANE, 1, 11);
        new Run().due(BAD, "stressed", PLANE, 0, 0).due(BAD, "stressed", SPACE, 1, 0)
                .due(BAD, "stressed", PLANE, 0, -1);
    }

    private static void holds() {
        sentence("Promise 21: Whether it HOLDS (1 or 0). BAD: also SORT 2.");
        new Run().due(1, "holds", PLANE).due(1, "holds", SPACE).due(BAD, "holds", ANYWHERE)
                .dueForEach(BAD, outside(0, 1), 0, "holds", 0);
        wheel().due(1, "holds", PLANE).due(BAD, "holds", SPACE).due(BAD, "holds", ANYWHERE)
                .dueForEach(BAD, outside(0, 1), 0, "holds", 0);
        signed(wheel(), 1).due(1, "holds", PLANE).due(11, "unbar").due(0, "holds", PLANE).due(2, "sign", 0, 0)
                .due(1, "holds", PLANE);
        signed(wheel(), 0, 0, 0, 0, 0, 0, 0, 0, 0, 0, 1, -1).due(0, "holds", PLANE).due(2, "sign", 10, -1)
                .due(1, "holds", PLANE);
        five().due(1, "holds", SPACE).due(1, "holds", PLANE).due(5, "begin", 6).due(BAD, "holds", SPACE)
                .due(1, "holds", PLANE);
    }

    private static void built() {
        sentence("Promise 22: JOINT i of THE LEAST row by which it is BUILT; NONE: it is not, or there is none such.");
        strip().due(0, "built", 0).due(6, "built", 6).dueForEach(NONE, outside(0, 6), 0, "built", 0);
        wheel().dueForEach(NONE, new int[] {0, 1, 6, 7, -1, LEAST, MOST}, 0, "built", 0);
        joints(7).dueForEach(NONE, new int[] {0, 1, 6, 7, -1, LEAST, MOST}, 0, "built", 0);
        Run shrunk = strip().due(7, "begin", 2).due(NONE, "built", 0).due(0, "bar", 0, 1).due(1, "built", 1)
                .due(NONE, "built", 2);
        shrunk.due(NONE, "built", 6);
    }

    private static void oneShape() {
        sentence("Promise 23: Whether it has ONE SHAPE (1 or 0).");
        new Run().due(1, "oneShape").due(1, "begin", 2).due(0, "oneShape").due(2, "begin", 1).due(1, "oneShape");
        five().due(1, "oneShape").due(9, "unbar").due(1, "oneShape").due(8, "unbar").due(0, "oneShape")
                .due(8, "bar", 4, 3)
                .due(1, "oneShape").due(9, "bar", 2, 4).due(1, "oneShape");
        wheel().due(1, "oneShape").due(7, "begin", 7).due(0, "oneShape");
    }
}
