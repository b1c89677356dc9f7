/**
 * A desk of trees: points by their distances are joined, two clusters at a time, by five linkages in exact
 * fractions, greedily or along chains of nearest neighbours; trees are told, cut, written, held against one another.
 *
 * <p>All rows are made with the object and used again by every call, so that no call makes objects of its own.
 */
public final class DendroDesk {
    /** There is none. */
    public static final int NONE = -1;

    private static final int MOST_POINTS = 20;
    private static final int MOST_STEPS = MOST_POINTS - 1;
    private static final int MOST_PAIRS = MOST_POINTS * (MOST_POINTS - 1) / 2;
    private static final int MOST_DISTANCE = 2000000;
    private static final int FARTHEST = 500;
    private static final int MOST_BYTES = 2400;
    private static final int FED_BYTES = 20;
    private static final int MOST_DIGITS = 7;
    private static final int SLOTS = 4;
    private static final int MOST_CUT_TOP = 1000000000;
    private static final int MOST_CUT_BOTTOM = 1000;

    private static final int SINGLE = 0;
    private static final int COMPLETE = 1;
    private static final int AVERAGE = 2;
    private static final int WARD = 3;
    private static final int WEIGHTED = 4;

    private static final int SQUARES = 0;
    private static final int SUMS = 1;
    private static final int GREATER = 2;

    // Clusters of a and b points have been halved at most (a - 1) + (b - 1) times, so this unit keeps halves whole.
    private static final long WEIGHTED_UNIT = 1L << (MOST_POINTS - 2);

    private final Points desk = new Points();
    private final Bytes tapeBytes = new Bytes();
    private final Bytes outBytes = new Bytes();
    private final TableReader reader = new TableReader();
    private final Joining joining = new Joining();
    private final Tree[] slots = new Tree[SLOTS];

    /** No points, no trees; TAPE and OUT are empty. */
    public DendroDesk() {
        for (int s = 0; s < SLOTS; s++) {
            slots[s] = new Tree();
        }
    }

    // ---- points

    /** Starts anew with n points, all alike: n, or NONE. */
    public int points(int n) {
        if (n < 0 || n > MOST_POINTS) {
            return NONE;
        }
        desk.startAnew(n);
        return n;
    }

    /** Sets the DISTANCE of two points: whether it could be set. */
    public boolean put(int i, int j, int d) {
        if (!desk.has(i) || !desk.has(j) || i == j || d < 0 || d > MOST_DISTANCE) {
            return false;
        }
        desk.setApart(i, j, d);
        return true;
    }

    /** The DISTANCE of two points, or NONE. */
    public int distance(int i, int j) {
        if (!desk.has(i) || !desk.has(j)) {
            return NONE;
        }
        return desk.apart[i][j];
    }

    /** Sets the PLACE of a point: whether it could be set. */
    public boolean place(int i, int x, int y) {
        if (!desk.has(i) || isTooFar(x) || isTooFar(y)) {
            return false;
        }
        desk.xs[i] = x;
        desk.ys[i] = y;
        return true;
    }

    /** Takes all DISTANCES from the PLACES: whether there is such a measure. */
    public boolean measure(int how) {
        if (how < SQUARES || how > GREATER) {
            return false;
        }
        desk.measureAll(how);
        return true;
    }

    /** Puts twenty bytes behind the TAPE: how many it has, or NONE. */
    public int feed(int a, int b, int c, int d, int e) {
        if (tapeBytes.length + FED_BYTES > MOST_BYTES) {
            return NONE;
        }
        tapeBytes.addFour(a);
        tapeBytes.addFour(b);
        tapeBytes.addFour(c);
        tapeBytes.addFour(d);
        tapeBytes.addFour(e);
        return tapeBytes.length;
    }

    /** Leaves the TAPE its first n bytes: n, or NONE. */
    public int end(int n) {
        if (n < 0 || n > tapeBytes.length) {
            return NONE;
        }
        tapeBytes.length = n;
        return n;
    }

    /** Makes the TAPE what OUT has: how many bytes. */
    public int take() {
        tapeBytes.copyFrom(outBytes);
        return tapeBytes.length;
    }

    /** Takes the TAPE as a TABLE: how many points there are now, or NONE. */
    public int read() {
        boolean sound = reader.readTable(tapeBytes);
        tapeBytes.length = 0;
        if (!sound) {
            return NONE;
        }
        desk.startAnew(reader.numbers[0]);
        int next = 1;
        for (int i = 1; i < desk.count; i++) {
            for (int j = 0; j < i; j++) {
                desk.setApart(i, j, reader.numbers[next]);
                next++;
            }
        }
        return desk.count;
    }

    /** The place of the FAULT of the latest read(), or NONE. */
    public int fault() {
        return reader.flaw;
    }

    /** Writes the TABLE of what there is to OUT: how many bytes. */
    public int write() {
        outBytes.length = 0;
        outBytes.addNumber(desk.count);
        for (int i = 1; i < desk.count; i++) {
            for (int j = 0; j < i; j++) {
                outBytes.add(' ');
                outBytes.addNumber(desk.apart[i][j]);
            }
        }
        return outBytes.length;
    }

    /** Byte i of OUT, or NONE. */
    public int out(int i) {
        return outBytes.at(i);
    }

    /** The top or bottom of the linkage of two clusters, told as bits, or -1. */
    public long linkage(int kind, int a, int b, int what) {
        int one = a & desk.allBits();
        int other = b & desk.allBits();
        if (kind < SINGLE || kind > WARD || what < 0 || what > 1) {
            return NONE;
        }
        if (one == 0 || other == 0 || (one & other) != 0) {
            return NONE;
        }
        int sizeOne = Integer.bitCount(one);
        int sizeOther = Integer.bitCount(other);
        long core = desk.coreBetween(kind, one, other);
        long bottom = Linkages.bottomOf(kind, sizeOne, sizeOther);
        long top = kind == WARD
                ? Linkages.wardTop(core, sizeOne, sizeOther, desk.sumInside(one), desk.sumInside(other))
                : core;
        return lowered(what == 0 ? top : bottom, commonDivisor(top, bottom));
    }

    // ---- trees

    /** Gives a SLOT the tree by GREEDY: how many STEPS, or NONE. */
    public int greedy(int slot, int kind) {
        return makeTree(slot, kind, false);
    }

    /** Gives a SLOT the tree by CHAIN: how many STEPS, or NONE. */
    public int chain(int slot, int kind) {
        return makeTree(slot, kind, true);
    }

    /** What a SLOT's tree is, or NONE. */
    public int tree(int slot, int what) {
        Tree told = treeIn(slot);
        if (told == null) {
            return NONE;
        }
        switch (what) {
            case 0:
                return told.steps.count;
            case 1:
                return told.ties;
            case 2:
                return told.points;
            case 3:
                return told.kind;
            case 4:
                return told.chained ? 1 : 0;
            default:
                return NONE;
        }
    }

    /** A cluster, the number of points or the points of STEP k of a SLOT's tree, or NONE. */
    public int step(int slot, int k, int what) {
        Tree told = treeIn(slot);
        if (told == null || !told.steps.has(k)) {
            return NONE;
        }
        switch (what) {
            case 0:
                return told.steps.first[k];
            case 1:
                return told.steps.second[k];
            case 2:
                return Integer.bitCount(told.steps.bits[k]);
            case 3:
                return told.steps.bits[k];
            default:
                return NONE;
        }
    }

    /** The top or bottom of the HEIGHT of STEP k of a SLOT's tree, or -1. */
    public long height(int slot, int k, int what) {
        Tree told = treeIn(slot);
        if (told == null || !told.steps.has(k) || what < 0 || what > 1) {
            return NONE;
        }
        return what == 0 ? told.steps.top[k] : told.steps.bottom[k];
    }

    /** The STEP of a SLOT's tree that joins two points, or NONE. */
    public int joins(int slot, int i, int j) {
        Tree told = treeIn(slot);
        if (told == null || !told.has(i) || !told.has(j) || i == j) {
            return NONE;
        }
        return told.steps.firstWithAll(1 << i | 1 << j);
    }

    /** Whether two SLOTS have trees with the same STEPS. */
    public boolean same(int s, int t) {
        Tree one = treeIn(s);
        Tree other = treeIn(t);
        if (one == null || other == null) {
            return false;
        }
        return one.points == other.points && one.steps.isLike(other.steps);
    }

    /** Writes the TEXT of a SLOT's tree to OUT: how many bytes, or NONE. */
    public int text(int slot) {
        Tree told = treeIn(slot);
        if (told == null) {
            return NONE;
        }
        outBytes.length = 0;
        if (told.points > 0) {
            writeCluster(outBytes, told, told.lastCluster(), 0);
        }
        outBytes.add(';');
        return outBytes.length;
    }

    /** The k-th point of THE ORDER of a SLOT's tree, or NONE. */
    public int order(int slot, int k) {
        Tree told = treeIn(slot);
        if (told == null || !told.has(k)) {
            return NONE;
        }
        return told.pointInOrder(k);
    }

    // ---- cuts

    /** Cuts a SLOT's tree into k clusters: k, or NONE. */
    public int cut(int slot, int k) {
        Tree told = treeIn(slot);
        if (told == null || k < Math.min(1, told.points) || k > told.points) {
            return NONE;
        }
        return told.cutBehind(told.points - k);
    }

    /** Cuts a SLOT's tree at a HEIGHT: how many clusters there are, or NONE. */
    public int cutAt(int slot, int top, int bottom) {
        Tree told = treeIn(slot);
        if (told == null || top < 0 || top > MOST_CUT_TOP || bottom < 1 || bottom > MOST_CUT_BOTTOM) {
            return NONE;
        }
        return told.cutBehind(told.steps.countUpTo(top, bottom));
    }

    /** The cluster of a point in the latest CUT of a SLOT's tree, or NONE. */
    public int label(int slot, int i) {
        Tree told = treeIn(slot);
        if (told == null || !told.has(i)) {
            return NONE;
        }
        return told.labels[i];
    }

    /** How many pairs of points the latest CUTS of two SLOTS tell alike, or NONE. */
    public int agree(int s, int t) {
        Tree one = treeIn(s);
        Tree other = treeIn(t);
        if (one == null || other == null || one.points != other.points) {
            return NONE;
        }
        int alike = 0;
        for (int i = 1; i < one.points; i++) {
            for (int j = 0; j < i; j++) {
                if (one.isTogether(i, j) == other.isTogether(i, j)) {
                    alike++;
                }
            }
        }
        return alike;
    }

    /** The point in the middle of a point's cluster in the latest CUT of a SLOT's tree, or NONE. */
    public int middle(int slot, int i) {
        Tree told = treeIn(slot);
        if (told == null || !told.has(i) || told.points != desk.count) {
            return NONE;
        }
        int best = NONE;
        int least = 0;
        for (int m = 0; m < told.points; m++) {
            if (told.isTogether(m, i)) {
                int sum = sumToCluster(told, m);
                if (best == NONE || sum < least) {
                    best = m;
                    least = sum;
                }
            }
        }
        return best;
    }

    // ---- what the calls share

    private static boolean isTooFar(int x) {
        return x < -FARTHEST || x > FARTHEST;
    }

    /** The tree of a SLOT; null if there is no such SLOT, or it has none. */
    private Tree treeIn(int slot) {
        if (slot < 0 || slot >= SLOTS || !slots[slot].made) {
            return null;
        }
        return slots[slot];
    }

    private int makeTree(int slot, int kind, boolean chained) {
        if (slot < 0 || slot >= SLOTS || kind < SINGLE || kind > WEIGHTED) {
            return NONE;
        }
        joining.begin(desk, kind);
        if (chained) {
            joining.joinAlongChains();
        } else {
            joining.joinGreedily();
        }
        joining.deliver(slots[slot], chained);
        return slots[slot].steps.count;
    }

    /** The sum of the DISTANCES of a point with all of its cluster, as they are now. */
    private int sumToCluster(Tree told, int point) {
        int sum = 0;
        for (int i = 0; i < told.points; i++) {
            if (told.isTogether(i, point)) {
                sum += desk.apart[point][i];
            }
        }
        return sum;
    }

    private static void writeCluster(Bytes to, Tree told, int cluster, int depth) {
        if (cluster < told.points) {
            to.addNumber(cluster);
            return;
        }
        int k = cluster - told.points;
        if (depth > MOST_STEPS || !told.steps.has(k)) {
            return;
        }
        to.add('(');
        writeCluster(to, told, told.leading(k), depth + 1);
        to.add(',');
        writeCluster(to, told, told.trailing(k), depth + 1);
        to.add(')');
        to.add(':');
        to.addNumber(told.steps.top[k]);
        if (told.steps.bottom[k] != 1) {
            to.add('/');
            to.addNumber(told.steps.bottom[k]);
        }
    }

    /** The greatest number that divides both, at least 1. */
    private static long commonDivisor(long top, long bottom) {
        long greater = Math.abs(top);
        long lesser = Math.abs(bottom);
        for (int turn = 0; turn < 200 && lesser != 0; turn++) {
            long rest = greater % lesser;
            greater = lesser;
            lesser = rest;
        }
        return Math.max(1, greater);
    }

    private static long lowered(long number, long divisor) {
        return divisor == 0 ? number : number / divisor;
    }

    /** The points, their DISTANCES and PLACES. */
    private static final class Points {
        private int count;
        private final int[][] apart = new int[MOST_POINTS][MOST_POINTS];
        private final int[] xs = new int[MOST_POINTS];
        private final int[] ys = new int[MOST_POINTS];

        private boolean has(int i) {
            return i >= 0 && i < count;
        }

        private int allBits() {
            return (1 << count) - 1;
        }

        private void startAnew(int n) {
            count = n;
            for (int i = 0; i < MOST_POINTS; i++) {
                xs[i] = 0;
                ys[i] = 0;
                for (int j = 0; j < MOST_POINTS; j++) {
                    apart[i][j] = 0;
                }
            }
        }

        private void setApart(int i, int j, int d) {
            apart[i][j] = d;
            apart[j][i] = d;
        }

        private void measureAll(int how) {
            for (int i = 1; i < count; i++) {
                for (int j = 0; j < i; j++) {
                    setApart(i, j, measured(how, Math.abs(xs[i] - xs[j]), Math.abs(ys[i] - ys[j])));
                }
            }
        }

        private static int measured(int how, int dx, int dy) {
            if (how == SQUARES) {
                return dx * dx + dy * dy;
            }
            return how == SUMS ? dx + dy : Math.max(dx, dy);
        }

        /** The core (see Linkages) of two clusters that are told as bits and have points. */
        private long coreBetween(int kind, int one, int other) {
            long core = 0;
            boolean begun = false;
            for (int i = 0; i < count; i++) {
                for (int j = 0; j < count; j++) {
                    if ((one >> i & 1) == 1 && (other >> j & 1) == 1) {
                        core = begun ? Linkages.carriedOn(kind, core, apart[i][j]) : apart[i][j];
                        begun = true;
                    }
                }
            }
            return core;
        }

        /** The sum of the DISTANCES of all two points of a cluster that is told as bits. */
        private long sumInside(int cluster) {
            long sum = 0;
            for (int i = 1; i < count; i++) {
                for (int j = 0; j < i; j++) {
                    if ((cluster >> i & 1) == 1 && (cluster >> j & 1) == 1) {
                        sum += apart[i][j];
                    }
                }
            }
            return sum;
        }
    }

    /**
     * The linkages by their CORES. The core of two clusters is a whole number from which their linkage follows, and
     * which joins carry on without fractions: the least or greatest DISTANCE; for AVERAGE and WARD the sum of all
     * DISTANCES between them, because a sum just adds up where the linkage itself would need fractions of fractions;
     * for WEIGHTED the linkage in units of 1 / WEIGHTED_UNIT.
     */
    private static final class Linkages {
        private static long coreOfPoints(int kind, int apart) {
            return kind == WEIGHTED ? apart * WEIGHTED_UNIT : apart;
        }

        /** The core of C and D together with E, x and y being those of C and E and of D and E. */
        private static long carriedOn(int kind, long x, long y) {
            switch (kind) {
                case SINGLE:
                    return Math.min(x, y);
                case COMPLETE:
                    return Math.max(x, y);
                case WEIGHTED:
                    return (x + y) / 2;
                default:
                    return x + y;
            }
        }

        /** What the top of WARD is over a b (a + b); of the other linkages the core is the top. */
        private static long wardTop(long between, int a, int b, long insideA, long insideB) {
            return 2 * (a * b * between - b * b * insideA - a * a * insideB);
        }

        private static long bottomOf(int kind, int a, int b) {
            switch (kind) {
                case AVERAGE:
                    return a * b;
                case WARD:
                    return a * b * (a + b);
                case WEIGHTED:
                    return WEIGHTED_UNIT;
                default:
                    return 1;
            }
        }
    }

    /** Bytes in a row: THE TAPE, and OUT. */
    private static final class Bytes {
        private final byte[] row = new byte[MOST_BYTES];
        private int length;

        private int at(int i) {
            return i < 0 || i >= length ? NONE : row[i] & 255;
        }

        private void add(int b) {
            if (length < MOST_BYTES) {
                row[length] = (byte) b;
                length++;
            }
        }

        private void addFour(int number) {
            add(number >> 24);
            add(number >> 16);
            add(number >> 8);
            add(number);
        }

        /** Adds the digits of a number from 0 on: HEIGHTS begin with a DISTANCE, and never fall below it. */
        private void addNumber(long number) {
            long unit = 1;
            for (int digits = 1; digits < 18 && number / unit >= 10; digits++) {
                unit *= 10;
            }
            for (int digits = 0; digits < 18 && unit > 0; digits++) {
                add('0' + (int) (number / unit % 10));
                unit /= 10;
            }
        }

        private void copyFrom(Bytes other) {
            System.arraycopy(other.row, 0, row, 0, other.length);
            length = other.length;
        }
    }

    /** Reads a TABLE into a row of its own, so that a FAULT leaves the points as they are. */
    private static final class TableReader {
        private final int[] numbers = new int[1 + MOST_PAIRS];
        private int next;
        private int flaw = NONE;

        /** Whether the bytes are a TABLE; numbers are its numbers then, else flaw is the FAULT. */
        private boolean readTable(Bytes from) {
            next = 0;
            flaw = NONE;
            int due = 1;
            for (int k = 0; k < due && k < numbers.length && flaw == NONE; k++) {
                numbers[k] = readNumber(from, k == 0 ? MOST_POINTS : MOST_DISTANCE);
                if (k == 0 && flaw == NONE) {
                    due = 1 + numbers[0] * (numbers[0] - 1) / 2;
                }
            }
            if (flaw == NONE) {
                skipBlanks(from);
                flaw = next < from.length ? next : NONE;
            }
            return flaw == NONE;
        }

        /** The next number. What can't stand behind it is found later, where a number or the end is due. */
        private int readNumber(Bytes from, int most) {
            skipBlanks(from);
            int start = next;
            int value = 0;
            // One digit more than may stand is read, because the eighth one is what makes the number a FAULT.
            while (next < from.length && next - start <= MOST_DIGITS && isDigit(from.at(next))) {
                value = value * 10 + from.at(next) - '0';
                next++;
            }
            int digits = next - start;
            if (digits == 0 || digits > MOST_DIGITS || value > most) {
                flaw = start;
            }
            return value;
        }

        private void skipBlanks(Bytes from) {
            while (next < from.length && isBlank(from.at(next))) {
                next++;
            }
        }

        private static boolean isDigit(int b) {
            return b >= '0' && b <= '9';
        }

        private static boolean isBlank(int b) {
            return b == 32 || b == 10;
        }
    }

    /** STEPS in a row, their HEIGHTS in lowest terms. */
    private static final class Steps {
        private int count;
        private final int[] first = new int[MOST_STEPS];
        private final int[] second = new int[MOST_STEPS];
        private final int[] bits = new int[MOST_STEPS];
        private final long[] top = new long[MOST_STEPS];
        private final long[] bottom = new long[MOST_STEPS];

        private boolean has(int k) {
            return k >= 0 && k < count;
        }

        private void setClusters(int k, int one, int other, int points) {
            if (k >= 0 && k < MOST_STEPS) {
                first[k] = Math.min(one, other);
                second[k] = Math.max(one, other);
                bits[k] = points;
            }
        }

        private void setHeight(int k, long heightTop, long heightBottom) {
            if (k >= 0 && k < MOST_STEPS) {
                long divisor = commonDivisor(heightTop, heightBottom);
                top[k] = lowered(heightTop, divisor);
                bottom[k] = lowered(heightBottom, divisor);
            }
        }

        /** How many STEPS come ahead of STEP k by HEIGHTS, those that are alike as they stand. */
        private int rankOf(int k) {
            int ahead = 0;
            for (int j = 0; j < count; j++) {
                int compared = Long.compare(top[j] * bottom[k], top[k] * bottom[j]);
                if (compared < 0 || compared == 0 && j < k) {
                    ahead++;
                }
            }
            return ahead;
        }

        private int firstWithAll(int points) {
            for (int k = 0; k < count; k++) {
                if ((bits[k] & points) == points) {
                    return k;
                }
            }
            return NONE;
        }

        private boolean isLike(Steps other) {
            if (count != other.count) {
                return false;
            }
            for (int k = 0; k < count; k++) {
                if (first[k] != other.first[k] || second[k] != other.second[k]
                        || top[k] != other.top[k] || bottom[k] != other.bottom[k]) {
                    return false;
                }
            }
            return true;
        }

        /** How many STEPS are not above a height. */
        private int countUpTo(long heightTop, long heightBottom) {
            int found = 0;
            for (int k = 0; k < count; k++) {
                if (top[k] * heightBottom <= heightTop * bottom[k]) {
                    found++;
                }
            }
            return found;
        }
    }

    /** What a SLOT has: a tree, as soon as one is made, and its latest CUT. */
    private static final class Tree {
        private boolean made;
        private boolean chained;
        private int points;
        private int kind;
        private int ties;
        private final Steps steps = new Steps();
        private final int[] labels = new int[MOST_POINTS];

        private boolean has(int i) {
            return i >= 0 && i < points;
        }

        private int lastCluster() {
            return points + steps.count - 1;
        }

        private int bitsOf(int cluster) {
            if (cluster < points) {
                return 1 << cluster;
            }
            return steps.has(cluster - points) ? steps.bits[cluster - points] : 0;
        }

        private boolean isFirstLeading(int k) {
            int one = bitsOf(steps.first[k]);
            int other = bitsOf(steps.second[k]);
            return (one & -one) < (other & -other);
        }

        /** The cluster of STEP k with the lesser least point. */
        private int leading(int k) {
            return isFirstLeading(k) ? steps.first[k] : steps.second[k];
        }

        private int trailing(int k) {
            return isFirstLeading(k) ? steps.second[k] : steps.first[k];
        }

        /** Goes down from the last cluster to the point that has this many others ahead of it. */
        private int pointInOrder(int ahead) {
            int cluster = lastCluster();
            int left = ahead;
            for (int turn = 0; turn < MOST_STEPS && steps.has(cluster - points); turn++) {
                int k = cluster - points;
                int size = Integer.bitCount(bitsOf(leading(k)));
                if (left < size) {
                    cluster = leading(k);
                } else {
                    left -= size;
                    cluster = trailing(k);
                }
            }
            return cluster;
        }

        /** Labels the clusters that are there behind the first STEPS: how many. HEIGHTS never fall along a tree. */
        private int cutBehind(int joined) {
            int clusters = 0;
            int told = 0;
            for (int i = 0; i < points; i++) {
                if ((told >> i & 1) == 0) {
                    int cluster = clusterBehind(joined, i);
                    setLabels(cluster, clusters);
                    told |= cluster;
                    clusters++;
                }
            }
            return clusters;
        }

        /** The bits of a point's cluster: of the first STEPS with it the latest one has all the others. */
        private int clusterBehind(int joined, int point) {
            int cluster = 1 << point;
            for (int k = 0; k < joined && k < steps.count; k++) {
                if ((steps.bits[k] >> point & 1) == 1) {
                    cluster = steps.bits[k];
                }
            }
            return cluster;
        }

        private void setLabels(int cluster, int number) {
            for (int i = 0; i < points; i++) {
                if ((cluster >> i & 1) == 1) {
                    labels[i] = number;
                }
            }
        }

        private boolean isTogether(int i, int j) {
            return labels[i] == labels[j];
        }
    }

    /**
     * The joining of clusters. Each cluster that is not yet joined into another has a row; what two are joined into
     * takes the row of one of them.
     */
    private static final class Joining {
        private int points;
        private int kind;
        private int ties;
        private final Steps made = new Steps();
        private final int[] ranks = new int[MOST_STEPS];
        // The rows of the clusters that stand, by rising numbers: what is found first has the least number.
        private final int[] standing = new int[MOST_POINTS];
        private int count;
        private final int[] number = new int[MOST_POINTS];
        private final int[] bits = new int[MOST_POINTS];
        private final long[] inside = new long[MOST_POINTS];
        private final long[][] core = new long[MOST_POINTS][MOST_POINTS];
        private final long[][] top = new long[MOST_POINTS][MOST_POINTS];
        private final long[][] bottom = new long[MOST_POINTS][MOST_POINTS];
        private final int[] stack = new int[MOST_POINTS];
        private int depth;

        private void begin(Points from, int linkage) {
            points = from.count;
            kind = linkage;
            ties = 0;
            made.count = 0;
            count = points;
            depth = 0;
            for (int i = 0; i < points; i++) {
                standing[i] = i;
                number[i] = i;
                bits[i] = 1 << i;
                inside[i] = 0;
            }
            for (int i = 1; i < points; i++) {
                for (int j = 0; j < i; j++) {
                    setCore(i, j, Linkages.coreOfPoints(kind, from.apart[i][j]));
                }
            }
        }

        private void setCore(int p, int q, long value) {
            int a = Integer.bitCount(bits[p]);
            int b = Integer.bitCount(bits[q]);
            long above = kind == WARD ? Linkages.wardTop(value, a, b, inside[p], inside[q]) : value;
            long below = Linkages.bottomOf(kind, a, b);
            core[p][q] = value;
            core[q][p] = value;
            top[p][q] = above;
            top[q][p] = above;
            bottom[p][q] = below;
            bottom[q][p] = below;
        }

        /** Compares the linkage of rows p and q with that of r and s. */
        private int compareLinkages(int p, int q, int r, int s) {
            return Long.compare(top[p][q] * bottom[r][s], top[r][s] * bottom[p][q]);
        }

        private void joinGreedily() {
            for (int turn = 0; turn < MOST_STEPS && count > 1; turn++) {
                joinLeastPair();
            }
        }

        private void joinLeastPair() {
            int p = standing[0];
            int q = standing[1];
            int alike = 0;
            for (int a = 0; a < count; a++) {
                for (int b = a + 1; b < count; b++) {
                    int compared = compareLinkages(standing[a], standing[b], p, q);
                    if (compared < 0) {
                        p = standing[a];
                        q = standing[b];
                        alike = 1;
                    } else if (compared == 0) {
                        alike++;
                    }
                }
            }
            if (alike > 1) {
                ties++;
            }
            join(p, q);
        }

        private void joinAlongChains() {
            // A turn joins two clusters or puts one of the 39 onto the stack, which it leaves only to be joined.
            for (int turn = 0; turn < 1000 && count > 1; turn++) {
                followChain();
            }
        }

        private void followChain() {
            if (depth == 0) {
                stack[0] = standing[0];
                depth = 1;
            }
            int topmost = stack[depth - 1];
            int below = depth > 1 ? stack[depth - 2] : NONE;
            int nearest = nearestTo(topmost, below);
            if (nearest == NONE) {
                return;
            }
            if (nearest == below) {
                depth -= 2;
                join(below, topmost);
            } else if (depth < MOST_POINTS) {
                stack[depth] = nearest;
                depth++;
            }
        }

        private int nearestTo(int topmost, int below) {
            int nearest = NONE;
            int alike = 0;
            for (int a = 0; a < count; a++) {
                int row = standing[a];
                if (row != topmost) {
                    int compared = nearest == NONE ? -1 : compareLinkages(topmost, row, topmost, nearest);
                    if (compared < 0 || compared == 0 && row == below) {
                        nearest = row;
                    }
                    alike = compared < 0 ? 1 : compared == 0 ? alike + 1 : alike;
                }
            }
            if (alike > 1) {
                ties++;
            }
            return nearest;
        }

        /** Joins the clusters of rows p and q into row p. */
        private void join(int p, int q) {
            int k = made.count;
            made.setClusters(k, number[p], number[q], bits[p] | bits[q]);
            made.setHeight(k, top[p][q], bottom[p][q]);
            made.count = k + 1;
            inside[p] += inside[q] + core[p][q];
            bits[p] |= bits[q];
            number[p] = points + k;
            leave(p);
            leave(q);
            for (int a = 0; a < count; a++) {
                int row = standing[a];
                setCore(p, row, Linkages.carriedOn(kind, core[p][row], core[q][row]));
            }
            standing[count] = p;
            count++;
        }

        private void leave(int row) {
            int kept = 0;
            for (int a = 0; a < count; a++) {
                if (standing[a] != row) {
                    standing[kept] = standing[a];
                    kept++;
                }
            }
            count = kept;
        }

        /** Gives a SLOT the tree, with no CUT as yet; the STEPS of chains are put in order by HEIGHTS. */
        private void deliver(Tree to, boolean chained) {
            to.made = true;
            to.chained = chained;
            to.points = points;
            to.kind = kind;
            to.ties = ties;
            to.steps.count = made.count;
            for (int k = 0; k < made.count; k++) {
                ranks[k] = chained ? made.rankOf(k) : k;
            }
            for (int k = 0; k < made.count; k++) {
                to.steps.setClusters(ranks[k], renumbered(made.first[k]), renumbered(made.second[k]), made.bits[k]);
                to.steps.setHeight(ranks[k], made.top[k], made.bottom[k]);
            }
            for (int i = 0; i < MOST_POINTS; i++) {
                to.labels[i] = 0;
            }
        }

        private int renumbered(int cluster) {
            return made.has(cluster - points) ? points + ranks[cluster - points] : cluster;
        }
    }
}
