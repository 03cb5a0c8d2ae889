import java.util.Arrays;

/**
 * Bars between joints, and what they hold: ranks where the joints are (in the plane, in space) and
 * wherever they are in the plane, and what follows from these ranks. The document numbers the promises.
 */
public final class RigidRanks {
    public static final int NONE = -1, BAD = -2, FULL = -3, THERE = -4;

    private static final int MOST_JOINTS = 7;
    private static final int MOST_JOINTS_IN_SPACE = 5;
    private static final int MOST_BARS = 12;
    private static final int MOST_SETS = 1 << MOST_BARS;
    private static final int MOST_PAIRS = MOST_JOINTS * (MOST_JOINTS - 1) / 2;
    private static final int FARTHEST = 4;
    private static final int WAYS = 3;

    private static final int PLANE = 0, SPACE = 1, ANYWHERE = 2, SORTS = 3;

    private static final int INDEPENDENT = 0, BASES = 1, CIRCUITS = 2, SPANNING = 3, PARTS = 4, CLOSED = 5,
            MEETING = 6, KINDS = 7;

    private final Frame frame = new Frame();
    private final Matroid[] matroids = new Matroid[SORTS];
    private final int[] order = new int[MOST_JOINTS];

    public RigidRanks() {
    }

    public int begin(int n) {
        if (n < 1 || n > MOST_JOINTS) {
            return BAD;
        }
        int before = frame.joints;
        frame.restart(n);
        return before;
    }

    public int joint(int v, int x, int y, int z) {
        if (!frame.hasJoint(v) || isTooFar(x) || isTooFar(y) || isTooFar(z)) {
            return BAD;
        }
        return frame.move(v, x, y, z) ? 1 : 0;
    }

    public int bar(int a, int b) {
        if (!isPair(a, b)) {
            return BAD;
        }
        if (frame.isJoined(a, b)) {
            return THERE;
        }
        if (frame.bars >= MOST_BARS) {
            return FULL;
        }
        return frame.join(a, b);
    }

    public int unbar() {
        if (frame.bars == 0) {
            return NONE;
        }
        return frame.dropLast();
    }

    public int sign(int bar, int s) {
        if (!frame.hasBar(bar) || s < -1 || s > 1) {
            return BAD;
        }
        int before = frame.signs[bar];
        frame.signs[bar] = s;
        return before + 1;
    }

    public int count(int what) {
        switch (what) {
            case 0:
                return frame.joints;
            case 1:
                return frame.bars;
            case 2:
                return frame.barsSigned(1);
            case 3:
                return frame.barsSigned(-1);
            default:
                return BAD;
        }
    }

    public int end(int bar, int which) {
        if (!frame.hasBar(bar) || which < 0 || which > 1) {
            return BAD;
        }
        return which == 0 ? frame.low[bar] : frame.high[bar];
    }

    public int at(int v, int way) {
        if (!frame.hasJoint(v) || way < 0 || way >= WAYS) {
            return BAD;
        }
        return frame.places[v * WAYS + way];
    }

    public int rank(int sort, int set) {
        Matroid matroid = matroidOf(sort);
        if (matroid == null || !frame.hasSet(set)) {
            return BAD;
        }
        return matroid.rankOf(set);
    }

    public int closure(int sort, int set) {
        Matroid matroid = matroidOf(sort);
        if (matroid == null || !frame.hasSet(set)) {
            return BAD;
        }
        return matroid.closureOf(set);
    }

    public int implied(int sort, int a, int b, int set) {
        Matroid matroid = matroidOf(sort);
        if (matroid == null || !isPair(a, b) || !frame.hasSet(set)) {
            return BAD;
        }
        matroid.link(set);
        return (matroid.linked[a] >> b) & 1;
    }

    public int rigid(int sort) {
        Matroid matroid = matroidOf(sort);
        if (matroid == null) {
            return BAD;
        }
        return matroid.lacking() == 0 ? 1 : 0;
    }

    public int lacks(int sort) {
        Matroid matroid = matroidOf(sort);
        if (matroid == null) {
            return BAD;
        }
        return matroid.lacking();
    }

    public int spare(int sort) {
        Matroid matroid = matroidOf(sort);
        if (matroid == null) {
            return BAD;
        }
        return matroid.spareBars();
    }

    public int many(int sort, int what) {
        Matroid matroid = matroidOf(sort);
        if (matroid == null || what < 0 || what >= KINDS) {
            return BAD;
        }
        return what == PARTS ? matroid.howManyParts() : matroid.howManySets(what);
    }

    public int told(int sort, int what, int k) {
        Matroid matroid = matroidOf(sort);
        if (matroid == null || what < 0 || what >= KINDS) {
            return BAD;
        }
        return what == PARTS ? matroid.partAt(k) : matroid.setAt(what, k);
    }

    public int coefficient(int sort, int i, int j) {
        Matroid matroid = matroidOf(sort);
        if (matroid == null) {
            return BAD;
        }
        if (i < 0 || i > MOST_BARS || j < 0 || j > MOST_BARS) {
            return 0;
        }
        return matroid.coefficientAt(i, j);
    }

    public int cluster(int sort, int k) {
        Matroid matroid = matroidOf(sort);
        if (matroid == null) {
            return BAD;
        }
        matroid.link(frame.allBars());
        return matroid.clusterAt(k);
    }

    public int stressed(int sort, int circuit, int bar) {
        if (!frame.hasSet(circuit) || !frame.hasBar(bar)) {
            return BAD;
        }
        if (matroidOf(sort) instanceof Placed placed && placed.isCircuit(circuit)) {
            return placed.stressSign(circuit, bar) + 1;
        }
        return BAD;
    }

    public int holds(int sort) {
        if (matroidOf(sort) instanceof Placed placed) {
            return placed.lacking() == 0 && placed.bearsSigns() ? 1 : 0;
        }
        return BAD;
    }

    public int built(int i) {
        if (!frame.hasJoint(i) || !lineUp(0, 0)) {
            return NONE;
        }
        return order[i];
    }

    public int oneShape() {
        int joints = frame.joints;
        if (joints <= 3) {
            // With so few JOINTS, RIGID means all BARS and then none is SPARE: the other way adds nothing.
            return frame.bars == joints * (joints - 1) / 2 ? 1 : 0;
        }
        Matroid matroid = matroidOf(ANYWHERE);
        if (matroid == null || matroid.spareBars() != frame.allBars() || matroid.lacking() != 0) {
            return 0;
        }
        return staysTogether() ? 1 : 0;
    }

    private static boolean isTooFar(int number) {
        return number < -FARTHEST || number > FARTHEST;
    }

    private boolean isPair(int a, int b) {
        return frame.hasJoint(a) && frame.hasJoint(b) && a != b;
    }

    /** The matroid of a SORT, up to date, or null if the SORT may not be. */
    private Matroid matroidOf(int sort) {
        if (sort < 0 || sort >= SORTS || (sort == SPACE && frame.joints > MOST_JOINTS_IN_SPACE)) {
            return null;
        }
        if (matroids[sort] == null) {
            matroids[sort] = makeMatroid(sort);
        }
        matroids[sort].refresh();
        return matroids[sort];
    }

    private Matroid makeMatroid(int sort) {
        switch (sort) {
            case PLANE:
                return new Placed(frame, 2);
            case SPACE:
                return new Placed(frame, 3);
            default:
                return new Anywhere(frame);
        }
    }

    /** Puts the least JOINT that fits at this depth of the row, and goes on; false if no row comes out. */
    private boolean lineUp(int depth, int ahead) {
        if (depth >= frame.joints) {
            return true;
        }
        int needed = Math.min(depth, 2);
        for (int v = 0; v < frame.joints; v++) {
            boolean isFree = ((ahead >> v) & 1) == 0;
            if (isFree && Integer.bitCount(frame.neighbours(v) & ahead) == needed) {
                order[depth] = v;
                if (lineUp(depth + 1, ahead | 1 << v)) {
                    return true;
                }
            }
        }
        return false;
    }

    private boolean staysTogether() {
        for (int a = 0; a < frame.joints; a++) {
            for (int b = a + 1; b < frame.joints; b++) {
                if (!frame.hangsTogether(frame.allJoints() & ~(1 << a) & ~(1 << b))) {
                    return false;
                }
            }
        }
        return true;
    }

    /** The JOINTS, their places, the BARS and their SIGNS. */
    private static final class Frame {
        final int[] places = new int[MOST_JOINTS * WAYS];
        final int[] low = new int[MOST_BARS];
        final int[] high = new int[MOST_BARS];
        final int[] signs = new int[MOST_BARS];
        int joints = 1;
        int bars = 0;
        /** Goes up with every change that a RANK may feel. */
        int version = 1;

        void restart(int n) {
            joints = n;
            bars = 0;
            Arrays.fill(places, 0);
            version++;
        }

        boolean hasJoint(int v) {
            return v >= 0 && v < joints;
        }

        boolean hasBar(int bar) {
            return bar >= 0 && bar < bars;
        }

        boolean hasSet(int set) {
            return set >= 0 && set <= allBars();
        }

        int allBars() {
            return (1 << bars) - 1;
        }

        int allJoints() {
            return (1 << joints) - 1;
        }

        boolean move(int v, int x, int y, int z) {
            int start = v * WAYS;
            if (places[start] == x && places[start + 1] == y && places[start + 2] == z) {
                return false;
            }
            places[start] = x;
            places[start + 1] = y;
            places[start + 2] = z;
            version++;
            return true;
        }

        boolean isJoined(int a, int b) {
            return ((neighbours(a) >> b) & 1) == 1;
        }

        int join(int a, int b) {
            int number = bars;
            low[number] = Math.min(a, b);
            high[number] = Math.max(a, b);
            signs[number] = 0;
            bars++;
            version++;
            return number;
        }

        int dropLast() {
            bars--;
            version++;
            return bars;
        }

        int barsSigned(int s) {
            int set = 0;
            for (int bar = 0; bar < bars; bar++) {
                if (signs[bar] == s) {
                    set |= 1 << bar;
                }
            }
            return set;
        }

        /** The JOINTS that BARS join to a JOINT, as bits. */
        int neighbours(int v) {
            int found = 0;
            for (int bar = 0; bar < bars; bar++) {
                if (low[bar] == v) {
                    found |= 1 << high[bar];
                } else if (high[bar] == v) {
                    found |= 1 << low[bar];
                }
            }
            return found;
        }

        /** Whether some JOINTS, told as bits, hang together by the BARS among them. */
        boolean hangsTogether(int some) {
            int reached = some & -some;
            for (int round = 1; round < joints; round++) {
                for (int v = 0; v < joints; v++) {
                    if (((reached >> v) & 1) == 1) {
                        reached |= neighbours(v) & some;
                    }
                }
            }
            return reached == some;
        }
    }

    /** What follows from the RANKS of all SETS of BARS, and from which PAIRS they imply, for one SORT. */
    private abstract static class Matroid {
        final Frame frame;
        /** For each SET the INDEPENDENT one that comes out if its BARS are taken in turn where they raise THE RANK. */
        final int[] basis = new int[MOST_SETS];
        /** For each JOINT those, as bits, with which it is an IMPLIED PAIR, since link() was last called. */
        final int[] linked = new int[MOST_JOINTS];
        private final int[] parts = new int[MOST_BARS];
        private final int[] tally = new int[(MOST_BARS + 1) * (MOST_BARS + 1)];
        private int seen = 0;

        Matroid(Frame frame) {
            this.frame = frame;
        }

        /** Makes ready for raises(), from the empty SET on. */
        abstract void prepare();

        /** Whether a BAR, later than all of an INDEPENDENT SET of that size, raises its RANK. */
        abstract boolean raises(int size, int set, int bar);

        /** Finds the PAIRS that a SET implies. */
        abstract void link(int set);

        /** How many PAIRS are wanting till the framework is RIGID. */
        abstract int lacking();

        final void refresh() {
            if (seen == frame.version) {
                return;
            }
            prepare();
            basis[0] = 0;
            grow(0, 0, 0);
            completeBases();
            seen = frame.version;
        }

        /** Goes from one INDEPENDENT SET to all those with later BARS; SETS with a dependent start are left out. */
        private void grow(int size, int set, int next) {
            if (size >= MOST_BARS) {
                return;
            }
            for (int bar = next; bar < frame.bars; bar++) {
                int more = set | 1 << bar;
                if (raises(size, set, bar)) {
                    basis[more] = more;
                    grow(size + 1, more, bar + 1);
                } else {
                    basis[more] = set;
                }
            }
        }

        private void completeBases() {
            for (int bar = 0; bar < frame.bars; bar++) {
                int bit = 1 << bar;
                for (int rest = 0; rest < bit; rest++) {
                    if (basis[rest] != rest) {
                        basis[rest | bit] = basis[basis[rest] | bit];
                    }
                }
            }
        }

        final int rankOf(int set) {
            return Integer.bitCount(basis[set]);
        }

        final int closureOf(int set) {
            int closed = set;
            int rank = rankOf(set);
            for (int bar = 0; bar < frame.bars; bar++) {
                if (rankOf(set | 1 << bar) == rank) {
                    closed |= 1 << bar;
                }
            }
            return closed;
        }

        private boolean isClosed(int set) {
            int rank = rankOf(set);
            for (int bar = 0; bar < frame.bars; bar++) {
                int bit = 1 << bar;
                if ((set & bit) == 0 && rankOf(set | bit) == rank) {
                    return false;
                }
            }
            return true;
        }

        final int spareBars() {
            int all = frame.allBars();
            int spares = 0;
            for (int bar = 0; bar < frame.bars; bar++) {
                if (rankOf(all & ~(1 << bar)) == rankOf(all)) {
                    spares |= 1 << bar;
                }
            }
            return spares;
        }

        final boolean isIndependent(int set) {
            return basis[set] == set;
        }

        final boolean isCircuit(int set) {
            if (isIndependent(set)) {
                return false;
            }
            for (int bar = 0; bar < frame.bars; bar++) {
                int bit = 1 << bar;
                if ((set & bit) != 0 && !isIndependent(set & ~bit)) {
                    return false;
                }
            }
            return true;
        }

        private boolean isSpanning(int set) {
            return rankOf(set) == rankOf(frame.allBars());
        }

        /** A SET meets each BASIS, if what is left without it has none. */
        private boolean meetsBasesBarely(int set) {
            int rest = frame.allBars() & ~set;
            if (isSpanning(rest)) {
                return false;
            }
            for (int bar = 0; bar < frame.bars; bar++) {
                int bit = 1 << bar;
                if ((set & bit) != 0 && !isSpanning(rest | bit)) {
                    return false;
                }
            }
            return true;
        }

        private boolean isOfKind(int what, int set) {
            switch (what) {
                case INDEPENDENT:
                    return isIndependent(set);
                case BASES:
                    return isIndependent(set) && isSpanning(set);
                case CIRCUITS:
                    return isCircuit(set);
                case SPANNING:
                    return isSpanning(set);
                case CLOSED:
                    return isClosed(set);
                case MEETING:
                    return meetsBasesBarely(set);
                default:
                    return false;
            }
        }

        final int howManySets(int what) {
            int found = 0;
            for (int set = 0; set <= frame.allBars(); set++) {
                if (isOfKind(what, set)) {
                    found++;
                }
            }
            return found;
        }

        final int setAt(int what, int k) {
            int ahead = 0;
            for (int set = 0; set <= frame.allBars(); set++) {
                if (isOfKind(what, set)) {
                    if (ahead == k) {
                        return set;
                    }
                    ahead++;
                }
            }
            return NONE;
        }

        private void gatherParts() {
            for (int bar = 0; bar < frame.bars; bar++) {
                parts[bar] = 1 << bar;
            }
            for (int set = 1; set <= frame.allBars(); set++) {
                if (isCircuit(set)) {
                    for (int bar = 0; bar < frame.bars; bar++) {
                        if (((set >> bar) & 1) == 1) {
                            parts[bar] |= set;
                        }
                    }
                }
            }
        }

        private boolean isLeastOfPart(int bar) {
            return (parts[bar] & -parts[bar]) == 1 << bar;
        }

        final int howManyParts() {
            gatherParts();
            int found = 0;
            for (int bar = 0; bar < frame.bars; bar++) {
                if (isLeastOfPart(bar)) {
                    found++;
                }
            }
            return found;
        }

        final int partAt(int k) {
            gatherParts();
            int ahead = 0;
            for (int bar = 0; bar < frame.bars; bar++) {
                if (isLeastOfPart(bar)) {
                    if (ahead == k) {
                        return parts[bar];
                    }
                    ahead++;
                }
            }
            return NONE;
        }

        /** Counts the SETS by the two powers that they have in THE POLYNOMIAL. */
        private void tallyPowers() {
            Arrays.fill(tally, 0);
            int rankOfAll = rankOf(frame.allBars());
            for (int set = 0; set <= frame.allBars(); set++) {
                int rank = rankOf(set);
                tally[(rankOfAll - rank) * (MOST_BARS + 1) + Integer.bitCount(set) - rank]++;
            }
        }

        /** The COEFFICIENT at powers 0 .. 12. */
        final int coefficientAt(int i, int j) {
            tallyPowers();
            int sum = 0;
            for (int p = i; p <= MOST_BARS; p++) {
                for (int q = j; q <= MOST_BARS; q++) {
                    int sets = tally[p * (MOST_BARS + 1) + q];
                    int term = sets == 0 ? 0 : sets * choose(p, i) * choose(q, j);
                    sum += ((p - i + q - j) & 1) == 0 ? term : -term;
                }
            }
            return sum;
        }

        private static int choose(int n, int k) {
            int ways = 1;
            for (int step = 1; step <= k; step++) {
                ways = ways * (n - k + step) / step;
            }
            return ways;
        }

        private boolean areLinked(int some) {
            for (int v = 0; v < frame.joints; v++) {
                int bit = 1 << v;
                if ((some & bit) != 0 && (some & ~bit & ~linked[v]) != 0) {
                    return false;
                }
            }
            return true;
        }

        private boolean isCluster(int some) {
            if (Integer.bitCount(some) < 2 || !areLinked(some)) {
                return false;
            }
            for (int v = 0; v < frame.joints; v++) {
                if (((some >> v) & 1) == 0 && (some & ~linked[v]) == 0) {
                    return false;
                }
            }
            return true;
        }

        final int clusterAt(int k) {
            int ahead = 0;
            for (int some = 0; some <= frame.allJoints(); some++) {
                if (isCluster(some)) {
                    if (ahead == k) {
                        return some;
                    }
                    ahead++;
                }
            }
            return NONE;
        }
    }

    /** SORTS 0 and 1: RANKS of ROWS, and the signs of STRESSES. */
    private static final class Placed extends Matroid {
        private final int ways;
        /** One sheet for each size of an INDEPENDENT SET: the BARS' ROWS with what that SET spans taken out. */
        private final Sheet[] sheets = new Sheet[MOST_BARS + 1];
        /** For each size the minor, but for its sign, that the pivots of that SET make. */
        private final long[] minors = new long[MOST_BARS + 1];
        /** For each CIRCUIT its BARS with a STRESS below 0, its least BAR'S being above. */
        private final int[] below = new int[MOST_SETS];
        private final Sheet pairs = new Sheet(MOST_PAIRS, Sheet.NUMBERS);

        Placed(Frame frame, int ways) {
            super(frame);
            this.ways = ways;
            for (int size = 0; size <= MOST_BARS; size++) {
                sheets[size] = new Sheet(MOST_BARS, Sheet.NUMBERS + MOST_BARS);
            }
        }

        private void writeRow(Sheet sheet, int row, int a, int b) {
            sheet.clear(row);
            for (int way = 0; way < ways; way++) {
                int difference = frame.places[a * WAYS + way] - frame.places[b * WAYS + way];
                // JOINT 0 gets no numbers: they are the others' sum with the other sign, and raise no RANK.
                if (a > 0) {
                    sheet.put(row, (a - 1) * ways + way, difference);
                }
                if (b > 0) {
                    sheet.put(row, (b - 1) * ways + way, -difference);
                }
            }
        }

        void prepare() {
            minors[0] = 1;
            for (int bar = 0; bar < frame.bars; bar++) {
                writeRow(sheets[0], bar, frame.low[bar], frame.high[bar]);
                // Behind its numbers a row keeps how much of each BAR'S ROW has gone into it.
                sheets[0].put(bar, Sheet.NUMBERS + bar, 1);
            }
        }

        boolean raises(int size, int set, int bar) {
            Sheet sheet = sheets[size];
            int column = sheet.leadColumn(bar);
            if (column < 0) {
                noteStress(size, set, bar);
                return false;
            }
            if (bar + 1 < frame.bars) {
                minors[size + 1] = Residues.times(minors[size], sheet.get(bar, column));
                sheet.reduceInto(sheets[size + 1], bar, bar + 1, frame.bars);
            }
            return true;
        }

        /** The row of a BAR has become 0: if all of the SET went into it, it is the STRESS of a CIRCUIT. */
        private void noteStress(int size, int set, int bar) {
            int circuit = set | 1 << bar;
            int negative = 0;
            for (int other = 0; other <= bar; other++) {
                if (((circuit >> other) & 1) == 1) {
                    // Times the minor of the SET each number is a minor itself, so it shows its sign.
                    long number = Residues.times(sheets[size].get(bar, Sheet.NUMBERS + other), minors[size]);
                    if (number == 0) {
                        return;
                    }
                    if (Residues.isBelowZero(number)) {
                        negative |= 1 << other;
                    }
                }
            }
            int least = circuit & -circuit;
            below[circuit] = (negative & least) == 0 ? negative : circuit & ~negative;
        }

        private static int pairRow(int a, int b) {
            return b * (b - 1) / 2 + a;
        }

        private int howManyPairs() {
            return frame.joints * (frame.joints - 1) / 2;
        }

        /** Takes one PAIR'S ROW out of those of all PAIRS; false if nothing is left of it. */
        private boolean takeOut(int row) {
            return pairs.reduceInto(pairs, row, 0, howManyPairs());
        }

        private void spanPairs(int set) {
            for (int b = 1; b < frame.joints; b++) {
                for (int a = 0; a < b; a++) {
                    writeRow(pairs, pairRow(a, b), a, b);
                }
            }
            for (int bar = 0; bar < frame.bars; bar++) {
                if (((set >> bar) & 1) == 1) {
                    takeOut(pairRow(frame.low[bar], frame.high[bar]));
                }
            }
        }

        void link(int set) {
            Arrays.fill(linked, 0);
            spanPairs(set);
            for (int b = 1; b < frame.joints; b++) {
                for (int a = 0; a < b; a++) {
                    if (pairs.leadColumn(pairRow(a, b)) < 0) {
                        linked[a] |= 1 << b;
                        linked[b] |= 1 << a;
                    }
                }
            }
        }

        int lacking() {
            spanPairs(frame.allBars());
            int wanting = 0;
            for (int row = 0; row < howManyPairs(); row++) {
                if (takeOut(row)) {
                    wanting++;
                }
            }
            return wanting;
        }

        /** The sign of a CIRCUIT'S STRESS on a BAR. */
        int stressSign(int circuit, int bar) {
            int bit = 1 << bar;
            if ((circuit & bit) == 0) {
                return 0;
            }
            return (below[circuit] & bit) == 0 ? 1 : -1;
        }

        /**
         * Whether some STRESS has the SIGNS of all CABLES and STRUTS. Each STRESS is a sum of CIRCUITS' ones that
         * nowhere have another sign than it, so it is enough that those which break no SIGN reach all of them.
         */
        boolean bearsSigns() {
            int cables = frame.barsSigned(1);
            int struts = frame.barsSigned(-1);
            int reached = 0;
            for (int set = 1; set <= frame.allBars(); set++) {
                if (isCircuit(set)) {
                    int minus = below[set];
                    int plus = set & ~minus;
                    boolean fits = (minus & cables) == 0 && (plus & struts) == 0;
                    boolean fitsTurned = (plus & cables) == 0 && (minus & struts) == 0;
                    if (fits || fitsTurned) {
                        reached |= set;
                    }
                }
            }
            return ((cables | struts) & ~reached) == 0;
        }
    }

    /** SORT 2: RANKS by counting the BARS among each some JOINTS. */
    private static final class Anywhere extends Matroid {
        private static final int SOME = 1 << MOST_JOINTS;
        /** For each some JOINTS, told as bits, the SET of BARS with both ends among them. */
        private final int[] inside = new int[SOME];
        /** For each size of an INDEPENDENT SET, and each some JOINTS, how many BARS more these may have. */
        private final int[] room = new int[(MOST_BARS + 1) * SOME];

        Anywhere(Frame frame) {
            super(frame);
        }

        private static int mostInside(int some) {
            return 2 * Integer.bitCount(some) - 3;
        }

        void prepare() {
            for (int some = 0; some <= frame.allJoints(); some++) {
                inside[some] = 0;
                room[some] = mostInside(some);
                for (int bar = 0; bar < frame.bars; bar++) {
                    if (((some >> frame.low[bar]) & (some >> frame.high[bar]) & 1) == 1) {
                        inside[some] |= 1 << bar;
                    }
                }
            }
        }

        boolean raises(int size, int set, int bar) {
            int all = frame.allJoints();
            int ends = 1 << frame.low[bar] | 1 << frame.high[bar];
            int now = size * SOME;
            for (int some = ends; some <= all; some = (some + 1) | ends) {
                if (room[now + some] == 0) {
                    return false;
                }
            }
            if (bar + 1 < frame.bars) {
                System.arraycopy(room, now, room, now + SOME, SOME);
                for (int some = ends; some <= all; some = (some + 1) | ends) {
                    room[now + SOME + some]--;
                }
            }
            return true;
        }

        /** A PAIR is IMPLIED just where some JOINTS with both of it have as many INDEPENDENT BARS as they may. */
        void link(int set) {
            Arrays.fill(linked, 0);
            for (int some = 0; some <= frame.allJoints(); some++) {
                if (Integer.bitCount(basis[set] & inside[some]) == mostInside(some)) {
                    linkAll(some);
                }
            }
        }

        private void linkAll(int some) {
            for (int v = 0; v < frame.joints; v++) {
                int bit = 1 << v;
                if ((some & bit) != 0) {
                    linked[v] |= some & ~bit;
                }
            }
        }

        int lacking() {
            return frame.joints == 1 ? 0 : mostInside(frame.allJoints()) - rankOf(frame.allBars());
        }
    }

    /** Rows of numbers, from which one row after the other can be taken out. */
    private static final class Sheet {
        /** A ROW'S numbers without JOINT 0's: 6 JOINTS two ways, or 4 JOINTS three ways. */
        static final int NUMBERS = 12;
        private final int columns;
        private final long[] cells;
        private final long[] lead;

        Sheet(int rows, int columns) {
            this.columns = columns;
            this.cells = new long[rows * columns];
            this.lead = new long[columns];
        }

        void clear(int row) {
            for (int column = 0; column < columns; column++) {
                cells[row * columns + column] = 0;
            }
        }

        void put(int row, int column, int number) {
            cells[row * columns + column] = Residues.of(number);
        }

        long get(int row, int column) {
            return cells[row * columns + column];
        }

        /** The first column where a row's numbers are not 0, or -1. */
        int leadColumn(int row) {
            for (int column = 0; column < NUMBERS; column++) {
                if (cells[row * columns + column] != 0) {
                    return column;
                }
            }
            return -1;
        }

        /** Rows from .. to - 1 go into a sheet, each less its share of one row; false if that one is 0. */
        boolean reduceInto(Sheet target, int row, int from, int to) {
            int column = leadColumn(row);
            if (column < 0) {
                return false;
            }
            long scale = Residues.inverse(get(row, column));
            for (int c = 0; c < columns; c++) {
                long cell = cells[row * columns + c];
                lead[c] = cell == 0 ? 0 : Residues.times(cell, scale);
            }
            for (int other = from; other < to; other++) {
                int start = other * columns;
                long share = cells[start + column];
                System.arraycopy(cells, start, target.cells, start, columns);
                // Most numbers are 0, and products cost the most.
                for (int c = 0; share != 0 && c < columns; c++) {
                    if (lead[c] != 0) {
                        target.cells[start + c] = Residues.minus(cells[start + c], Residues.times(share, lead[c]));
                    }
                }
            }
            return true;
        }
    }

    /**
     * Whole numbers modulo a prime. A ROW is no longer than 16 in the PLANE and 20 in SPACE, so a minor of 12 ROWS at
     * most is below 2 to the 52: what is 0 here is 0 over fractions too, and a minor's sign shows in which half of
     * the numbers it lies.
     */
    private static final class Residues {
        private static final long PRIME = (1L << 61) - 1;
        private static final long LOW_31 = (1L << 31) - 1;
        private static final long LOW_30 = (1L << 30) - 1;
        private static final int MOST_STEPS = 200;

        static long of(int number) {
            return number < 0 ? number + PRIME : number;
        }

        static boolean isBelowZero(long a) {
            return a > PRIME / 2;
        }

        static long minus(long a, long b) {
            return a >= b ? a - b : a - b + PRIME;
        }

        /** The product in pieces, as 2 to the 61 counts for 1 and the whole would not fit. */
        static long times(long a, long b) {
            long aHigh = a >>> 31;
            long aLow = a & LOW_31;
            long bHigh = b >>> 31;
            long bLow = b & LOW_31;
            long middle = aLow * bHigh + aHigh * bLow;
            long sum = 2 * aHigh * bHigh + (middle >>> 30) + ((middle & LOW_30) << 31) + aLow * bLow;
            long folded = (sum & PRIME) + (sum >>> 61);
            return folded >= PRIME ? folded - PRIME : folded;
        }

        /** The inverse of a number that is not 0, by Euclid's steps. */
        static long inverse(long a) {
            long rest = PRIME;
            long nextRest = a;
            long factor = 0;
            long nextFactor = 1;
            for (int step = 0; step < MOST_STEPS && nextRest != 0; step++) {
                long quotient = rest / nextRest;
                long lastRest = rest - quotient * nextRest;
                long lastFactor = factor - quotient * nextFactor;
                rest = nextRest;
                nextRest = lastRest;
                factor = nextFactor;
                nextFactor = lastFactor;
            }
            return factor < 0 ? factor + PRIME : factor;
        }
    }
}
