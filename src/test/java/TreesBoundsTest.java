/** The boundaries that promises 15 to 23 name. */
public final class TreesBoundsTest {
    private static final Check CHECK = new Check("TreesBoundsTest");
    private static final int LEAST = Integer.MIN_VALUE;
    private static final int MOST = Integer.MAX_VALUE;
    private static final int[] NO_SLOTS = {-1, 4, LEAST, MOST};

    public static void main(String[] args) {
        for (int way = 0; way <= 1; way++) {
            grown(way);
            grownOfFew(way);
            growRefusedSlot(way);
            growRefusedKind(way);
        }
        tree();
        treeRefused();
        treeRefusedWhat();
        step();
        stepRefused();
        stepRefusedWhat();
        height();
        heightRefused();
        heightRefusedWhat();
        joins();
        joinsWithoutTree();
        joinsPoints();
        joinsBothAreOne();
        same();
        sameClusters();
        sameInOrder();
        sameHeights();
        sameOfAsManyPoints();
        sameWithoutTree();
        text();
        textRefused();
        order();
        orderRefused();
        lookingChangesNothing();
        CHECK.finish();
    }

    /** By GREEDY, way 0, or by CHAIN, way 1. */
    private static int grow(Desk x, int way, int slot, int kind) {
        return way == 0 ? x.greedy(slot, kind) : x.chain(slot, kind);
    }

    private static Sentence growSentence(int way, String greedyWords, String chainWords) {
        return way == 0 ? CHECK.sentence("Promise 15", greedyWords) : CHECK.sentence("Promise 16", chainWords);
    }

    // ---- Promises 15 and 16

    private static void grown(int way) {
        Sentence s = growSentence(way, "A SLOT has the tree by GREEDY of a linkage, 0 .. 4: how many STEPS.",
                "A SLOT has the tree by CHAIN, likewise.");
        String[] due = {"6/1", "10/1", "25/3", "67/6", "35/4"};
        for (int kind = 0; kind <= 4; kind++) {
            for (int slot = 0; slot <= 3; slot++) {
                Desk x = Desk.of("4 1 5 2 9 6 10");
                s.due("linkage " + kind + " in slot " + slot, grow(x, way, slot, kind), 3);
                s.due("its facts", x.facts(slot), "3 0 4 " + kind + " " + way);
                s.due("its last height", x.heightOf(slot, 2), due[kind]);
            }
        }
        s.changesOnly("a tree in slot 0", x -> grow(x, way, 0, 1), View.tree(0), View.labels(0));
        s.changesOnly("a tree in slot 3", x -> grow(x, way, 3, 1), View.tree(3), View.labels(3));
    }

    private static void grownOfFew(int way) {
        Sentence s = growSentence(way, "how many STEPS", "A SLOT has the tree by CHAIN, likewise.");
        for (int n = 0; n <= 20; n++) {
            Desk x = Sentence.richDesk();
            x.points(n);
            for (int kind = 0; kind <= 4; kind++) {
                s.due("of " + n + " points", grow(x, way, 0, kind), Math.max(0, n - 1));
                s.due("steps of " + n + " points", x.tree(0, 0), Math.max(0, n - 1));
                s.due("points of " + n + " points", x.tree(0, 2), n);
            }
        }
        Desk x = new Desk();
        s.due("of a new object", grow(x, way, 2, 3), 0);
        s.due("its tree", x.facts(2), "0 0 0 3 " + way);
        x.points(20);
        grow(x, way, 2, 0);
        x.points(2);
        grow(x, way, 2, 4);
        s.due("two points in place of twenty", x.facts(2) + ": " + x.steps(2), "1 0 2 4 " + way + ": 0+1#2=3@0/1");
        s.due("no second step", x.step(2, 1, 0), -1);
    }

    private static void growRefusedSlot(int way) {
        Sentence s = growSentence(way, "NONE: there is no such SLOT", "A SLOT has the tree by CHAIN, likewise.");
        s.due("slot 0", grow(Sentence.richDesk(), way, 0, 0), 3);
        s.due("slot 3", grow(Sentence.richDesk(), way, 3, 0), 3);
        for (int slot : NO_SLOTS) {
            s.refused("slot " + slot, x -> grow(x, way, slot, 0));
        }
    }

    private static void growRefusedKind(int way) {
        Sentence s = growSentence(way, "there is no such SLOT, or linkage.", "A SLOT has the tree by CHAIN, likewise.");
        s.due("linkage 0", grow(Sentence.richDesk(), way, 0, 0), 3);
        s.due("linkage 4", grow(Sentence.richDesk(), way, 0, 4), 3);
        for (int kind : new int[] {-1, 5, LEAST, MOST}) {
            s.refused("linkage " + kind, x -> grow(x, way, 0, kind));
            s.refused("linkage " + kind + " in an empty slot", x -> grow(x, way, 3, kind));
        }
    }

    // ---- Promise 17

    private static void tree() {
        Sentence s = CHECK.sentence("Promise 17", "Of a SLOT's tree, what 0: STEPS, 1: TIES, 2: points, 3: its linkage,"
                + " 4: 1 if it is by CHAIN, else 0.");
        Desk x = new Desk();
        x.greedy(0, 4);
        s.due("of no points", x.facts(0), "0 0 0 4 0");
        x.points(20);
        x.greedy(1, 0);
        s.due("of twenty points", x.facts(1), "19 18 20 0 0");
        x.chain(2, 3);
        // Each of the pairs 0 1, 2 3 .. finds several twice, but for the last one, of which both find one alone.
        s.due("of twenty points by a chain", x.facts(2), "19 36 20 3 1");
        x.chain(1, 1);
        s.due("a new one in its place", x.facts(1), "19 36 20 1 1");
        x.points(1);
        x.chain(3, 2);
        s.due("of one point", x.facts(3), "0 0 1 2 1");
    }

    private static void treeRefused() {
        Sentence s = CHECK.sentence("Promise 17", "NONE: there is no such SLOT, it has no tree");
        for (int what = 0; what <= 4; what++) {
            int asked = what;
            s.due("tree(0, " + what + ")", Sentence.richDesk().tree(0, what) != -1, true);
            s.due("tree(2, " + what + ")", Sentence.richDesk().tree(2, what) != -1, true);
            s.refusedWithoutTree("tree(%, " + what + ")", (x, slot) -> x.tree(slot, asked));
        }
        Desk x = Sentence.richDesk();
        x.greedy(3, 0);
        s.due("tree(3, 0), as soon as there is one", x.tree(3, 0), 3);
    }

    private static void treeRefusedWhat() {
        Sentence s = CHECK.sentence("Promise 17", "or another what.");
        s.due("tree(1, 0)", Sentence.richDesk().tree(1, 0), 3);
        s.due("tree(1, 4)", Sentence.richDesk().tree(1, 4), 1);
        s.due("tree(0, 4)", Sentence.richDesk().tree(0, 4), 0);
        s.refusedEach("tree(1, %)", (x, what) -> x.tree(1, what), -1, 5, LEAST, MOST);
    }

    // ---- Promise 18

    private static void step() {
        Sentence s = CHECK.sentence("Promise 18", "Of STEP k of a SLOT's tree, what 0, 1: its clusters, 2: how many"
                + " points, 3: its points as bits.");
        Desk x = Sentence.richDesk();
        String due = "2+3#2=12@2/1 0+1#2=3@5/1 4+5#4=15@183/2";
        s.due("four points", x.steps(0), due);
        x = new Desk();
        x.points(20);
        x.greedy(0, 0);
        s.due("the first step of twenty", x.step(0, 0), "0+1#2=3@0/1");
        s.due("the tenth step of twenty", x.step(0, 9), "18+19#2=786432@0/1");
        s.due("the last step of twenty", x.step(0, 18), "36+37#20=1048575@0/1");
    }

    private static void stepRefused() {
        Sentence s = CHECK.sentence("Promise 18", "NONE: there is none such");
        for (int what = 0; what <= 3; what++) {
            int asked = what;
            s.due("step(0, 0, " + what + ")", Sentence.richDesk().step(0, 0, what) != -1, true);
            s.due("step(0, 2, " + what + ")", Sentence.richDesk().step(0, 2, what) != -1, true);
            s.refusedEach("step(0, %, " + what + ")", (x, k) -> x.step(0, k, asked), -1, 3, 18, 19, 20, LEAST, MOST);
            s.refusedWithoutTree("step(%, 0, " + what + ")", (x, slot) -> x.step(slot, 0, asked));
        }
        for (int n = 0; n <= 20; n++) {
            Desk x = new Desk();
            x.points(20);
            x.greedy(0, 0);
            x.points(n);
            x.greedy(0, 0);
            s.due("step n - 2 of " + n, x.step(0, n - 2, 2), n < 2 ? -1 : n);
            s.due("step n - 1 of " + n, x.step(0, n - 1, 2), -1);
            s.due("step n of " + n, x.step(0, n, 2), -1);
        }
    }

    private static void stepRefusedWhat() {
        Sentence s = CHECK.sentence("Promise 18", "or another what.");
        s.due("step(0, 2, 0)", Sentence.richDesk().step(0, 2, 0), 4);
        s.due("step(0, 2, 3)", Sentence.richDesk().step(0, 2, 3), 15);
        s.refusedEach("step(0, 2, %)", (x, what) -> x.step(0, 2, what), -1, 4, LEAST, MOST);
    }

    // ---- Promise 19

    private static void height() {
        Sentence s = CHECK.sentence("Promise 19", "The top (what 0) or bottom (1) of STEP k's HEIGHT.");
        Desk x = Sentence.richDesk();
        s.due("top of step 0", x.height(0, 0, 0), 2);
        s.due("bottom of step 0", x.height(0, 0, 1), 1);
        s.due("top of step 2", x.height(0, 2, 0), 183);
        s.due("bottom of step 2", x.height(0, 2, 1), 2);
        x = new Desk();
        x.points(20);
        for (int i = 0; i < 20; i++) {
            for (int j = 0; j < i; j++) {
                x.put(i, j, i == 19 ? 2000000 - (j == 0 ? 1 : 0) : 100000 * i);
            }
        }
        x.greedy(0, 4);
        // 2000000 - 1 / 2^18
        s.due("a top beyond an int", x.height(0, 18, 0), 524287999999L);
        s.due("its bottom", x.height(0, 18, 1), 262144);
        x.chain(1, 4);
        s.due("a top beyond an int, by a chain", x.height(1, 18, 0), 524287999999L);
    }

    private static void heightRefused() {
        Sentence s = CHECK.sentence("Promise 19", "-1: there is none such");
        for (int what = 0; what <= 1; what++) {
            int asked = what;
            s.due("height(0, 0, " + what + ")", Sentence.richDesk().height(0, 0, what), 2 - what);
            s.due("height(0, 2, " + what + ")", Sentence.richDesk().height(0, 2, what), what == 0 ? 183 : 2);
            s.refusedEach("height(0, %, " + what + ")", (x, k) -> x.height(0, k, asked), -1, 3, 18, 19, 20, LEAST,
                    MOST);
            s.refusedWithoutTree("height(%, 0, " + what + ")", (x, slot) -> x.height(slot, 0, asked));
        }
        for (int n = 0; n <= 20; n++) {
            Desk x = new Desk();
            x.points(20);
            x.chain(0, 0);
            x.points(n);
            x.chain(0, 0);
            s.due("height of step n - 2 of " + n, x.height(0, n - 2, 1), n < 2 ? -1 : 1);
            s.due("height of step n - 1 of " + n, x.height(0, n - 1, 1), -1);
        }
    }

    private static void heightRefusedWhat() {
        Sentence s = CHECK.sentence("Promise 19", "or another what.");
        s.due("height(0, 2, 0)", Sentence.richDesk().height(0, 2, 0), 183);
        s.due("height(0, 2, 1)", Sentence.richDesk().height(0, 2, 1), 2);
        s.refusedEach("height(0, 2, %)", (x, what) -> x.height(0, 2, what), -1, 2, LEAST, MOST);
    }

    // ---- Promise 20

    private static void joins() {
        Sentence s = CHECK.sentence("Promise 20",
                "The STEP of a SLOT's tree that joins two points (the least whose cluster has both).");
        Desk x = Sentence.richDesk();
        int[][] due = {{-1, 1, 2, 2}, {1, -1, 2, 2}, {2, 2, -1, 0}, {2, 2, 0, -1}};
        for (int i = 0; i < 4; i++) {
            for (int j = 0; j < 4; j++) {
                s.due("joins(0, " + i + ", " + j + ")", x.joins(0, i, j), due[i][j]);
            }
        }
        x = new Desk();
        x.points(2);
        x.greedy(0, 0);
        s.due("of two points", x.joins(0, 1, 0), 0);
        x.points(20);
        x.greedy(0, 0);
        s.due("18 and 19 of twenty", x.joins(0, 18, 19), 9);
        // Ten pairs, then five fours: that of 16 to 19 comes to the eight points 0 to 7, those of 8 to 15 last.
        s.due("0 and 19 of twenty", x.joins(0, 0, 19), 17);
        s.due("0 and 8 of twenty", x.joins(0, 0, 8), 18);
    }

    private static void joinsWithoutTree() {
        Sentence s = CHECK.sentence("Promise 20", "NONE: there is no tree");
        s.due("joins(2, 0, 1)", Sentence.richDesk().joins(2, 0, 1), 1);
        s.refusedWithoutTree("joins(%, 0, 1)", (x, slot) -> x.joins(slot, 0, 1));
    }

    private static void joinsPoints() {
        Sentence s = CHECK.sentence("Promise 20", "one is no point of it");
        s.due("joins(0, 3, 0)", Sentence.richDesk().joins(0, 3, 0), 2);
        s.due("joins(0, 0, 3)", Sentence.richDesk().joins(0, 0, 3), 2);
        for (int i : new int[] {-1, 4, 5, 20, 31, 32, 33, LEAST, MOST}) {
            s.refused("joins(0, 0, " + i + ")", x -> x.joins(0, 0, i));
            s.refused("joins(0, " + i + ", 0)", x -> x.joins(0, i, 0));
        }
        Desk x = Sentence.richDesk();
        x.points(20);
        s.due("a point of the desk, not of the tree", x.joins(0, 0, 4), -1);
        x.points(0);
        s.due("a point of the tree, not of the desk", x.joins(0, 0, 3), 2);
        x.greedy(0, 0);
        s.due("of no points", x.joins(0, 0, 1), -1);
        x.points(1);
        x.greedy(0, 0);
        s.due("of one point", x.joins(0, 0, 1), -1);
    }

    private static void joinsBothAreOne() {
        Sentence s = CHECK.sentence("Promise 20", "or both are one.");
        s.due("joins(0, 2, 3)", Sentence.richDesk().joins(0, 2, 3), 0);
        for (int i = 0; i < 4; i++) {
            int one = i;
            s.refused("joins(0, " + i + ", " + i + ")", x -> x.joins(0, one, one));
        }
    }

    // ---- Promise 21

    /** Whether the trees of two tables, by GREEDY of one linkage, are the same, asked both ways. */
    private static void alike(Sentence s, String one, String other, int kind, boolean want) {
        Desk x = Desk.of(one);
        x.greedy(0, kind);
        x.readText(other);
        x.greedy(3, kind);
        s.due(one + " and " + other, x.same(0, 3), want);
        s.due(other + " and " + one, x.same(3, 0), want);
    }

    private static void same() {
        Sentence s = CHECK.sentence("Promise 21",
                "Whether two SLOTS have trees with the same STEPS: the same clusters and HEIGHTS, in order");
        alike(s, "4 1 5 2 9 6 10", "4 1 5 2 9 6 10", 2, true);
        // Of SINGLE only the least ones count.
        alike(s, "3 1 5 6", "3 1 5 9", 0, true);
        alike(s, "0", "0", 0, true);
        alike(s, "1", "1", 0, true);
        alike(s, "2 5", "2 5", 0, true);
        Desk x = Desk.of("4 5 90 91 92 93 2");
        x.greedy(0, 0);
        x.chain(1, 0);
        s.due("by other ways", x.same(0, 1), true);
        s.due("with itself", x.same(0, 0), true);
        x = Desk.of("3 5 5 5");
        x.greedy(0, 0);
        x.chain(1, 3);
        s.due("with other ties and linkages", x.same(0, 1), true);
        x.cut(0, 3);
        s.due("with other cuts", x.same(0, 1), true);
    }

    private static void sameClusters() {
        Sentence s = CHECK.sentence("Promise 21", "the same clusters");
        // 0 2, 1 3 and 0 3, 1 2, at the same heights.
        alike(s, "4 9 1 9 9 2 9", "4 9 9 2 1 9 9", 0, false);
        // 0 3, 1 2 and 1 3, 0 2, at the same heights.
        alike(s, "4 9 9 2 1 9 9", "4 9 2 9 9 1 9", 0, false);
        // 0 1, 2 3 and 0 1, 2 4, at the same heights.
        alike(s, "4 1 9 9 9 9 2", "4 1 2 2 9 9 9", 0, false);
        alike(s, "4 1 9 9 9 9 2", "4 1 9 9 9 9 2", 0, true);
        // All but the last point's, and the very last step alike.
        alike(s, "3 1 9 9", "3 9 1 9", 0, false);
        alike(s, "3 9 1 9", "3 9 1 9", 0, true);
    }

    private static void sameInOrder() {
        Sentence s = CHECK.sentence("Promise 21", "the same clusters and HEIGHTS, in order");
        Desk x = Desk.of("5 7 6 9 9 9 5 9 5 9 9");
        x.greedy(0, 1);
        x.chain(1, 1);
        s.due("by greedy", x.steps(0), "1+4#2=18@5/1 2+3#2=12@5/1 0+5#3=19@9/1 6+7#5=31@9/1");
        s.due("by a chain", x.steps(1), "2+3#2=12@5/1 1+4#2=18@5/1 0+5#3=13@9/1 6+7#5=31@9/1");
        s.due("the same clusters in another order", x.same(0, 1), false);
        x.chain(2, 1);
        s.due("the same clusters in the same order", x.same(1, 2), true);
    }

    private static void sameHeights() {
        Sentence s = CHECK.sentence("Promise 21", "the same clusters and HEIGHTS");
        alike(s, "2 5", "2 6", 0, false);
        alike(s, "3 1 5 5", "3 2 5 5", 0, false);
        alike(s, "3 1 5 5", "3 1 6 6", 0, false);
        // 5 and 5 / 2, 5 / 2 and 7 / 2
        alike(s, "3 2 4 6", "3 2 2 3", 2, false);
        alike(s, "3 2 2 3", "3 2 3 4", 2, false);
        alike(s, "3 2 3 4", "3 2 4 3", 2, true);
    }

    private static void sameOfAsManyPoints() {
        Sentence s = CHECK.sentence("Promise 21", "(of as many points)");
        alike(s, "0", "1", 0, false);
        alike(s, "1", "2 0", 0, false);
        alike(s, "0", "2 0", 0, false);
        alike(s, "2 0", "3 0 0 0", 0, false);
        alike(s, "3 0 0 0", "3 0 0 0", 0, true);
        alike(s, "20" + " 0".repeat(190), "19" + " 0".repeat(171), 0, false);
        alike(s, "20" + " 0".repeat(190), "20" + " 0".repeat(190), 0, true);
    }

    private static void sameWithoutTree() {
        Sentence s = CHECK.sentence("Promise 21", "False, too, without a tree.");
        s.due("same(2, 2)", Sentence.richDesk().same(2, 2), true);
        s.refusedAsFalse("same(3, 3)", x -> x.same(3, 3));
        for (int slot = 0; slot <= 2; slot++) {
            int one = slot;
            s.refusedAsFalse("same(" + slot + ", 3)", x -> x.same(one, 3));
            s.refusedAsFalse("same(3, " + slot + ")", x -> x.same(3, one));
        }
        for (int slot : NO_SLOTS) {
            s.refusedAsFalse("same(0, " + slot + ")", x -> x.same(0, slot));
            s.refusedAsFalse("same(" + slot + ", 0)", x -> x.same(slot, 0));
            s.refusedAsFalse("same(" + slot + ", " + slot + ")", x -> x.same(slot, slot));
        }
        Desk x = new Desk();
        x.greedy(0, 0);
        s.due("a tree of no points and none", x.same(0, 1), false);
        x.greedy(1, 0);
        s.due("two trees of no points", x.same(0, 1), true);
    }

    // ---- Promise 22

    private static void text() {
        Sentence s = CHECK.sentence("Promise 22", "OUT is the TEXT of a SLOT's tree: how many bytes.");
        String[][] due = {{"0", ";"}, {"1", "0;"}, {"2 10", "(0,1):10;"}, {"3 1 4 5", "((0,1):1,2):9/2;"}};
        for (String[] d : due) {
            Desk x = Desk.of(d[0]);
            x.greedy(3, 2);
            x.points(20);
            x.write();
            s.due("text of " + d[0], x.text(3), d[1].length());
            s.due("out", x.outText(), d[1]);
            s.due("text once more", x.text(3), d[1].length());
        }
        s.changesOnly("text(1)", x -> x.text(1), View.OUT);
        Desk x = new Desk();
        x.points(20);
        x.greedy(0, 0);
        // Thirty digits, and of each of nineteen steps two brackets, a comma, a colon and a digit.
        s.due("text of twenty", x.text(0), 30 + 5 * 19 + 1);
        s.due("its last byte", x.out(125), ';');
        s.due("one behind it", x.out(126), -1);
    }

    private static void textRefused() {
        Sentence s = CHECK.sentence("Promise 22", "NONE, and OUT stays, without one.");
        s.due("text(2)", Sentence.richDesk().text(2), 24);
        s.refusedWithoutTree("text(%)", (x, slot) -> x.text(slot));
        Desk x = new Desk();
        s.due("text(0) of a new object", x.text(0), -1);
        s.due("out(0) then", x.out(0), -1);
        x.greedy(0, 0);
        s.due("text(0) of no points", x.text(0), 1);
    }

    // ---- Promise 23

    private static void order() {
        Sentence s = CHECK.sentence("Promise 23", "The k-th point, from 0 on, of THE ORDER of a SLOT's tree.");
        Desk x = Desk.of("4 9 9 1 1 9 9");
        x.greedy(0, 0);
        int[] due = {0, 3, 1, 2};
        for (int k = 0; k < 4; k++) {
            s.due("order(0, " + k + ") of ((0,3),(1,2))", x.order(0, k), due[k]);
        }
        for (int n = 1; n <= 20; n++) {
            x = new Desk();
            x.layRow(n);
            x.greedy(1, 0);
            s.due("the first of " + n, x.order(1, 0), 0);
            s.due("the last of " + n, x.order(1, n - 1), n - 1);
            s.due("one behind the last of " + n, x.order(1, n), -1);
        }
    }

    private static void orderRefused() {
        Sentence s = CHECK.sentence("Promise 23", "NONE if there is none such.");
        s.due("order(0, 0)", Sentence.richDesk().order(0, 0), 0);
        s.due("order(0, 3)", Sentence.richDesk().order(0, 3), 3);
        s.refusedEach("order(0, %)", (x, k) -> x.order(0, k), -1, 4, 19, 20, LEAST, MOST);
        s.refusedWithoutTree("order(%, 0)", (x, slot) -> x.order(slot, 0));
        Desk x = Sentence.richDesk();
        x.points(20);
        s.due("as many as the desk has, not the tree", x.order(0, 4), -1);
        x.points(0);
        s.due("as many as the tree has, not the desk", x.order(0, 3), 3);
        x.greedy(0, 0);
        s.due("order(0, 0) of no points", x.order(0, 0), -1);
        x.points(1);
        s.due("a point of the desk, not of the tree", x.order(0, 0), -1);
        x.greedy(0, 0);
        s.due("order(0, 0) of one point", x.order(0, 0), 0);
        s.due("order(0, 1) of one point", x.order(0, 1), -1);
    }

    private static void lookingChangesNothing() {
        Sentence s = CHECK.sentence("Not promised",
                "Nothing is promised beyond the answers and state changes described above");
        s.changesOnly("tree", x -> x.tree(0, 1));
        s.changesOnly("step", x -> x.step(0, 1, 3));
        s.changesOnly("height", x -> x.height(0, 1, 0));
        s.changesOnly("joins", x -> x.joins(0, 0, 2));
        s.changesOnly("same", x -> x.same(0, 1));
        s.changesOnly("order", x -> x.order(0, 2));
    }
}
