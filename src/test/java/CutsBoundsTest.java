/** The boundaries that promises 24 to 28 name. */
public final class CutsBoundsTest {
    private static final Check CHECK = new Check("CutsBoundsTest");
    private static final int LEAST = Integer.MIN_VALUE;
    private static final int MOST = Integer.MAX_VALUE;
    private static final int[] NO_SLOTS = {-1, 4, LEAST, MOST};
    // By AVERAGE (0,3):1  (1,4):2  (1,2,4):7/2  all:8
    private static final String FIVE = "5 8 8 3 1 8 8 8 2 4 8";
    private static final String[] LABELS =
            {"", "0 0 0 0 0", "0 1 1 0 1", "0 1 2 0 1", "0 1 2 0 3", "0 1 2 3 4"};

    public static void main(String[] args) {
        cut();
        cutOfChain();
        cutWithoutTree();
        cutRange();
        cutOfNone();
        cutAt();
        cutAtFractions();
        cutAtAlike();
        cutAtWithoutTree();
        cutAtTop();
        cutAtBottom();
        label();
        labelAheadOfCut();
        labelRefused();
        agree();
        agreeOfFew();
        agreeWithoutTree();
        agreePoints();
        middle();
        middleOfSeveral();
        middleAsTheyAreNow();
        middleRefused();
        middlePointsNow();
        lookingChangesNothing();
        CHECK.finish();
    }

    private static Desk averaged(String table) {
        Desk x = Desk.of(table);
        x.greedy(0, 2);
        return x;
    }

    // ---- Promise 24

    private static void cut() {
        Sentence s = CHECK.sentence("Promise 24", "A SLOT's tree is CUT into k clusters: those that are there behind"
                + " all STEPS but the last k - 1: k.");
        Desk x = averaged(FIVE);
        for (int k : new int[] {1, 2, 3, 4, 5, 4, 3, 2, 1, 5, 1}) {
            s.due("cut(0, " + k + ")", x.cut(0, k), k);
            s.due("its labels", x.labels(0), LABELS[k]);
        }
        s.changesOnly("cut(0, 4)", y -> y.cut(0, 4), View.labels(0));
        for (int k = 1; k <= 20; k++) {
            x = new Desk();
            x.points(20);
            x.greedy(3, 0);
            s.due("cut(3, " + k + ") of twenty", x.cut(3, k), k);
            int greatest = 0;
            for (int i = 0; i < 20; i++) {
                greatest = Math.max(greatest, x.label(3, i));
            }
            s.due("the greatest label", greatest, k - 1);
        }
    }

    private static void cutOfChain() {
        Sentence s = CHECK.sentence("Promise 24", "those that are there behind all STEPS but the last k - 1");
        // Made as 0 1 at 5, 2 3 at 2: by their order 2 3 is the first STEP.
        Desk x = Desk.of("4 5 90 91 92 93 2");
        x.chain(0, 0);
        s.due("cut(0, 3)", x.cut(0, 3), 3);
        s.due("its labels", x.labels(0), "0 1 2 2");
        // The STEPS are counted, whatever their HEIGHTS.
        x.readText("4 5 90 91 92 93 5");
        x.chain(0, 0);
        s.due("cut(0, 3)", x.cut(0, 3), 3);
        s.due("its labels", x.labels(0), "0 0 1 2");
    }

    private static void cutWithoutTree() {
        Sentence s = CHECK.sentence("Promise 24", "NONE: there is no tree");
        s.due("cut(2, 1)", Sentence.richDesk().cut(2, 1), 1);
        s.refused("cut(3, 1)", x -> x.cut(3, 1));
        s.refused("cut(3, 0)", x -> x.cut(3, 0));
        for (int slot : NO_SLOTS) {
            s.refused("cut(" + slot + ", 1)", x -> x.cut(slot, 1));
            s.refused("cut(" + slot + ", 0)", x -> x.cut(slot, 0));
        }
        s.due("cut(0, 0) of a new object", new Desk().cut(0, 0), -1);
    }

    private static void cutRange() {
        Sentence s = CHECK.sentence("Promise 24", "or k is not 1 .. its points");
        s.due("cut(0, 1) of four", Sentence.richDesk().cut(0, 1), 1);
        s.due("cut(0, 4) of four", Sentence.richDesk().cut(0, 4), 4);
        s.refusedEach("cut(0, %)", (x, k) -> x.cut(0, k), 0, -1, 5, 20, LEAST, MOST);
        for (int n = 1; n <= 20; n++) {
            Desk x = new Desk();
            x.points(n);
            x.chain(0, 0);
            x.points(20);
            s.due("cut(0, 0) of " + n, x.cut(0, 0), -1);
            s.due("cut(0, 1) of " + n, x.cut(0, 1), 1);
            s.due("cut(0, n) of " + n, x.cut(0, n), n);
            s.due("cut(0, n + 1) of " + n, x.cut(0, n + 1), -1);
            s.due("the last label of " + n, x.label(0, n - 1), n - 1);
            x.points(0);
            s.due("cut(0, n) of " + n + ", no points now", x.cut(0, n), n);
        }
    }

    private static void cutOfNone() {
        Sentence s = CHECK.sentence("Promise 24", "k is not 1 .. its points (0, if it has none)");
        Desk x = new Desk();
        x.greedy(0, 0);
        s.due("cut(0, 0) of none", x.cut(0, 0), 0);
        s.due("cut(0, 1) of none", x.cut(0, 1), -1);
        s.due("cut(0, -1) of none", x.cut(0, -1), -1);
        x.points(1);
        s.due("cut(0, 1) of none, though the desk has one", x.cut(0, 1), -1);
        x.greedy(0, 0);
        s.due("cut(0, 0) of one", x.cut(0, 0), -1);
        s.due("cut(0, 1) of one", x.cut(0, 1), 1);
        s.due("cut(0, 2) of one", x.cut(0, 2), -1);
    }

    // ---- Promise 25

    private static void cutAt() {
        Sentence s = CHECK.sentence("Promise 25", "A SLOT's tree is CUT at top / bottom: the clusters that are there"
                + " behind all STEPS whose HEIGHT is not above that: how many.");
        Desk x = averaged(FIVE);
        int[][] due = {{0, 1, 5}, {999, 1000, 5}, {1, 1, 4}, {1000, 1000, 4}, {1001, 1000, 4}, {1999, 1000, 4},
            {2, 1, 3}, {3499, 1000, 3}, {7, 2, 2}, {3501, 1000, 2}, {7999, 1000, 2}, {8, 1, 1}, {1000000000, 1, 1}};
        for (int[] d : due) {
            s.due("cutAt(0, " + d[0] + ", " + d[1] + ")", x.cutAt(0, d[0], d[1]), d[2]);
            s.due("its labels", x.labels(0), LABELS[d[2]]);
        }
        s.changesOnly("cutAt(0, 3, 1)", y -> y.cutAt(0, 3, 1), View.labels(0));
        x = new Desk();
        x.greedy(0, 0);
        s.due("of no points", x.cutAt(0, 0, 1), 0);
        x.points(1);
        x.greedy(0, 0);
        s.due("of one point", x.cutAt(0, 0, 1), 1);
        x.points(20);
        x.greedy(0, 0);
        s.due("of twenty alike", x.cutAt(0, 0, 1), 1);
        x.measure(0);
        x.readText("2 1");
        x.greedy(0, 0);
        s.due("of two, below", x.cutAt(0, 0, 1), 2);
        s.due("of two, at their height", x.cutAt(0, 1, 1), 1);
    }

    private static void cutAtFractions() {
        Sentence s = CHECK.sentence("Promise 25", "all STEPS whose HEIGHT is not above that");
        // WARD of {0, 1} and 2: (2 4 + 2 6 - 1) / 3
        Desk x = Desk.of("3 1 4 6");
        x.greedy(0, 3);
        s.due("the height", x.heightOf(0, 1), "19/3");
        int[][] due = {{19, 3, 1}, {6, 1, 2}, {7, 1, 1}, {6333, 1000, 2}, {6334, 1000, 1}, {6327, 999, 1},
            {6326, 999, 2}, {38, 6, 1}, {1000000000, 1, 1}, {1000000000, 1000, 1}};
        for (int[] d : due) {
            s.due("cutAt(0, " + d[0] + ", " + d[1] + ")", x.cutAt(0, d[0], d[1]), d[2]);
        }
        // WEIGHTED of twenty: 2000000 - 1 / 2^18 at last
        x = new Desk();
        x.points(20);
        for (int i = 0; i < 20; i++) {
            for (int j = 0; j < i; j++) {
                x.put(i, j, i == 19 ? 2000000 - (j == 0 ? 1 : 0) : 100000 * i);
            }
        }
        x.greedy(0, 4);
        s.due("just below 2000000", x.cutAt(0, 2000000, 1), 1);
        s.due("far below it by a bottom", x.cutAt(0, 1000000000, 501), 2);
        s.due("1999999999 / 1000 is too great a top", x.cutAt(0, 1999999999, 1000), -1);
        s.due("just below the last height", x.cutAt(0, 999999999, 500), 2);
        s.due("just above the last height", x.cutAt(0, 1000000000, 500), 1);
    }

    private static void cutAtAlike() {
        Sentence s = CHECK.sentence("Promise 25", "the clusters that are there behind all STEPS");
        Desk x = Desk.of("4 3 9 9 9 9 3");
        x.chain(0, 0);
        s.due("below two that are alike", x.cutAt(0, 2, 1), 4);
        s.due("at two that are alike", x.cutAt(0, 3, 1), 2);
        s.due("its labels", x.labels(0), "0 0 1 1");
        s.due("at the last one", x.cutAt(0, 9, 1), 1);
        s.due("its labels", x.labels(0), "0 0 0 0");
        s.due("below all again", x.cutAt(0, 0, 1000), 4);
        s.due("its labels", x.labels(0), "0 1 2 3");
    }

    private static void cutAtWithoutTree() {
        Sentence s = CHECK.sentence("Promise 25", "NONE: there is no tree");
        s.due("cutAt(2, 2, 1)", Sentence.richDesk().cutAt(2, 2, 1), 3);
        s.refusedWithoutTree("cutAt(%, 1, 1)", (x, slot) -> x.cutAt(slot, 1, 1));
        s.due("cutAt(0, 0, 1) of a new object", new Desk().cutAt(0, 0, 1), -1);
    }

    private static void cutAtTop() {
        Sentence s = CHECK.sentence("Promise 25", "top is not 0 .. 1000000000");
        s.due("cutAt(0, 0, 1)", Sentence.richDesk().cutAt(0, 0, 1), 4);
        s.due("cutAt(0, 1000000000, 1)", Sentence.richDesk().cutAt(0, 1000000000, 1), 1);
        s.due("cutAt(0, 1000000000, 1000)", Sentence.richDesk().cutAt(0, 1000000000, 1000), 1);
        for (int top : new int[] {-1, 1000000001, LEAST, MOST}) {
            s.refused("cutAt(0, " + top + ", 1)", x -> x.cutAt(0, top, 1));
            s.refused("cutAt(2, " + top + ", 1000)", x -> x.cutAt(2, top, 1000));
        }
    }

    private static void cutAtBottom() {
        Sentence s = CHECK.sentence("Promise 25", "bottom not 1 .. 1000.");
        s.due("cutAt(0, 2000, 1)", Sentence.richDesk().cutAt(0, 2000, 1), 1);
        s.due("cutAt(0, 2000, 1000)", Sentence.richDesk().cutAt(0, 2000, 1000), 3);
        s.due("cutAt(0, 1999, 1000)", Sentence.richDesk().cutAt(0, 1999, 1000), 4);
        for (int bottom : new int[] {0, -1, 1001, LEAST, MOST}) {
            s.refused("cutAt(0, 2000, " + bottom + ")", x -> x.cutAt(0, 2000, bottom));
            s.refused("cutAt(0, 0, " + bottom + ")", x -> x.cutAt(0, 0, bottom));
        }
    }

    // ---- Promise 26

    private static void label() {
        Sentence s = CHECK.sentence("Promise 26", "The cluster of a point in the latest CUT of a SLOT's tree: numbered"
                + " from 0 on by their least points");
        Desk x = averaged(FIVE);
        x.cut(0, 3);
        s.due("labels of three", x.labels(0), "0 1 2 0 1");
        x.cutAt(0, 7, 2);
        s.due("labels of the latest", x.labels(0), "0 1 1 0 1");
        x.greedy(1, 2);
        x.cut(1, 5);
        s.due("labels of another slot's cut", x.labels(0), "0 1 1 0 1");
        // {1, 2} comes first by its STEP, 0 by its least point.
        x.readText("3 9 9 1");
        x.greedy(2, 0);
        x.cut(2, 2);
        s.due("by least points", x.labels(2), "0 1 1");
        x.readText("4 9 9 1 2 9 9");
        x.greedy(2, 0);
        x.cut(2, 2);
        s.due("by least points, not by steps", x.labels(2), "0 1 1 0");
        s.due("the points of a tree stay", x.label(0, 4), 1);
    }

    private static void labelAheadOfCut() {
        Sentence s = CHECK.sentence("Promise 26", "(0 for all ahead of any CUT)");
        Desk x = new Desk();
        x.points(20);
        x.chain(0, 1);
        s.due("of twenty points", x.labels(0), "0" + " 0".repeat(19));
        x.cut(0, 20);
        s.due("behind a cut", x.label(0, 19), 19);
        x.chain(0, 1);
        s.due("of a new tree", x.labels(0), "0" + " 0".repeat(19));
        x.cut(0, 0);
        s.due("behind a refused cut", x.labels(0), "0" + " 0".repeat(19));
        x.cutAt(0, 0, 0);
        s.due("behind a refused cutAt", x.labels(0), "0" + " 0".repeat(19));
        x.cut(0, 20);
        x.points(3);
        x.greedy(0, 1);
        s.due("of a new and smaller tree", x.labels(0), "0 0 0");
    }

    private static void labelRefused() {
        Sentence s = CHECK.sentence("Promise 26", "NONE: there is no tree, or no such point of it.");
        s.due("label(0, 0)", Sentence.richDesk().label(0, 0), 0);
        s.due("label(0, 3)", Sentence.richDesk().label(0, 3), 1);
        s.refusedEach("label(0, %)", (x, i) -> x.label(0, i), -1, 4, 19, 20, LEAST, MOST);
        s.refusedWithoutTree("label(%, 0)", (x, slot) -> x.label(slot, 0));
        Desk x = new Desk();
        x.greedy(0, 0);
        x.points(1);
        s.due("a point of the desk, not of the tree", x.label(0, 0), -1);
        x.greedy(0, 0);
        x.points(0);
        s.due("a point of the tree, not of the desk", x.label(0, 0), 0);
    }

    // ---- Promise 27

    private static void agree() {
        Sentence s = CHECK.sentence("Promise 27", "How many pairs of points two SLOTS' latest CUTS tell alike:"
                + " together in both, or apart in both.");
        Desk x = averaged(FIVE);
        x.chain(3, 2);
        s.due("together in both, all", x.agree(0, 3), 10);
        x.cut(0, 5);
        s.due("apart in one, together in the other, all", x.agree(0, 3), 0);
        s.due("the other way round", x.agree(3, 0), 0);
        x.cut(3, 5);
        s.due("apart in both, all", x.agree(0, 3), 10);
        // Into two: 0 3 and 1 2 4; into three 1 4 remains of that.
        x.cut(0, 2);
        s.due("two and five", x.agree(0, 3), 6);
        x.cut(3, 3);
        s.due("two and three", x.agree(0, 3), 8);
        s.due("three and two", x.agree(3, 0), 8);
        s.due("with itself", x.agree(3, 3), 10);
    }

    private static void agreeOfFew() {
        Sentence s = CHECK.sentence("Promise 27", "How many pairs of points");
        for (int n = 0; n <= 20; n++) {
            Desk x = new Desk();
            x.points(n);
            x.greedy(0, 0);
            x.chain(1, 0);
            s.due("all pairs of " + n, x.agree(0, 1), n * (n - 1) / 2);
            x.cut(1, n);
            s.due("no pair of " + n, x.agree(0, 1), 0);
            x.cut(0, n);
            s.due("all pairs of " + n + ", apart", x.agree(0, 1), n * (n - 1) / 2);
        }
    }

    private static void agreeWithoutTree() {
        Sentence s = CHECK.sentence("Promise 27", "NONE: one has no tree");
        s.due("agree(0, 2)", Sentence.richDesk().agree(0, 2), 2);
        s.refused("agree(3, 3)", x -> x.agree(3, 3));
        for (int slot = 0; slot <= 2; slot++) {
            int one = slot;
            s.refused("agree(" + slot + ", 3)", x -> x.agree(one, 3));
            s.refused("agree(3, " + slot + ")", x -> x.agree(3, one));
        }
        for (int slot : NO_SLOTS) {
            s.refused("agree(0, " + slot + ")", x -> x.agree(0, slot));
            s.refused("agree(" + slot + ", 0)", x -> x.agree(slot, 0));
        }
    }

    private static void agreePoints() {
        Sentence s = CHECK.sentence("Promise 27", "or they have not as many points.");
        for (int n = 0; n <= 20; n++) {
            Desk x = Sentence.richDesk();
            x.points(n);
            x.greedy(3, 0);
            s.due("four and " + n, x.agree(2, 3), n == 4 ? 6 : -1);
            s.due(n + " and four", x.agree(3, 2), n == 4 ? 6 : -1);
        }
        Desk x = Sentence.richDesk();
        x.points(7);
        s.due("trees of four, a desk of seven", x.agree(1, 1), 6);
    }

    // ---- Promise 28

    private static void middle() {
        Sentence s = CHECK.sentence("Promise 28", "Of the cluster of a point in the latest CUT of a SLOT's tree the"
                + " point whose DISTANCES, as they are now, with all of the cluster are least in sum");
        // On a line: 0, 1, 3, 7, 20.
        Desk x = averaged("5 1 3 2 7 6 4 20 19 17 13");
        for (int i = 0; i < 5; i++) {
            s.due("of all, asked for " + i, x.middle(0, i), 2);
        }
        x.cut(0, 5);
        for (int i = 0; i < 5; i++) {
            s.due("of one", x.middle(0, i), i);
        }
        x.cut(0, 3);
        s.due("labels", x.labels(0), "0 0 0 1 2");
        int[] due = {1, 1, 1, 3, 4};
        for (int i = 0; i < 5; i++) {
            s.due("of three, one and one, asked for " + i, x.middle(0, i), due[i]);
        }
        x.points(1);
        x.greedy(0, 0);
        s.due("of the only point", x.middle(0, 0), 0);
        // One point a little nearer to all than the others, whose sums are 19 times 2000000.
        x = new Desk();
        x.points(20);
        x.greedy(0, 0);
        for (int i = 0; i < 20; i++) {
            for (int j = 0; j < i; j++) {
                x.put(i, j, i == 19 && j == 18 || i != 19 ? 2000000 : 1999999);
            }
        }
        s.due("of twenty", x.middle(0, 18), 19);
    }

    private static void middleOfSeveral() {
        Sentence s = CHECK.sentence("Promise 28", "are least in sum, of several the least.");
        Desk x = averaged("4 5 5 5 5 5 5");
        s.due("all alike", x.middle(0, 3), 0);
        x.put(0, 1, 6);
        s.due("2 and 3 alike", x.middle(0, 0), 2);
        x.put(2, 3, 6);
        s.due("all alike again", x.middle(0, 2), 0);
        x.put(2, 3, 4);
        x.put(0, 2, 6);
        s.due("3 alone", x.middle(0, 0), 3);
        Desk two = averaged("2 9");
        s.due("of two", two.middle(0, 1), 0);
    }

    private static void middleAsTheyAreNow() {
        Sentence s = CHECK.sentence("Promise 28", "the point whose DISTANCES, as they are now");
        Desk x = averaged("3 1 3 2");
        s.due("as they were", x.middle(0, 0), 1);
        x.put(0, 1, 50);
        s.due("behind a put", x.middle(0, 0), 2);
        x.points(3);
        s.due("behind points(3)", x.middle(0, 2), 0);
        x.place(1, 5, 0);
        x.place(2, 6, 0);
        x.measure(1);
        s.due("behind measure", x.middle(0, 0), 1);
        x.readText("3 9 2 2");
        s.due("behind read", x.middle(0, 0), 2);
        x.readText("3 9 2 2 x");
        s.due("behind a fault", x.middle(0, 0), 2);
    }

    private static void middleRefused() {
        Sentence s = CHECK.sentence("Promise 28", "NONE: there is no tree, no such point of it");
        s.due("middle(0, 0)", Sentence.richDesk().middle(0, 0), 0);
        s.due("middle(0, 3)", Sentence.richDesk().middle(0, 3), 2);
        s.refusedEach("middle(0, %)", (x, i) -> x.middle(0, i), -1, 4, 19, 20, LEAST, MOST);
        s.refusedWithoutTree("middle(%, 0)", (x, slot) -> x.middle(slot, 0));
        Desk x = new Desk();
        x.greedy(0, 0);
        s.due("of no points", x.middle(0, 0), -1);
    }

    private static void middlePointsNow() {
        Sentence s = CHECK.sentence("Promise 28", "or there are not as many points now.");
        for (int n = 0; n <= 20; n++) {
            Desk x = Sentence.richDesk();
            x.points(n);
            s.due("a tree of four, " + n + " points now", x.middle(0, 3), n == 4 ? 2 : -1);
        }
        Desk x = new Desk();
        x.points(20);
        x.greedy(0, 0);
        x.points(19);
        s.due("a tree of twenty, 19 points now", x.middle(0, 0), -1);
        x.points(20);
        s.due("a tree of twenty, 20 points now", x.middle(0, 0), 0);
    }

    private static void lookingChangesNothing() {
        Sentence s = CHECK.sentence("Not promised",
                "Nothing is promised beyond the answers and state changes described above");
        s.changesOnly("label", x -> x.label(0, 3));
        s.changesOnly("agree", x -> x.agree(0, 1));
        s.changesOnly("middle", x -> x.middle(0, 3));
    }
}
