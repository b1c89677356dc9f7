/** Promises 15 to 23: trees by GREEDY and by CHAIN, and what they tell. */
public final class TreesTest {
    private static final Check CHECK = new Check("TreesTest");
    private static final int[] NO_SLOTS = {-1, 4, Integer.MIN_VALUE, Integer.MAX_VALUE};
    // The chain 0, 2, 3 ends with 1 and 2 alike near to 3.
    private static final String TIED = "4 9 3 9 9 1 1";
    private static final String TWO_PAIRS = "4 5 90 91 92 93 2";

    public static void main(String[] args) {
        smallTrees();
        greedyLinkages();
        greedyTies();
        chainTies();
        chainOrder();
        deepHalves();
        refusedTrees();
        treeStays();
        tree();
        step();
        height();
        joins();
        same();
        text();
        order();
        CHECK.finish();
    }

    private static void smallTrees() {
        for (int n = 0; n <= 2; n++) {
            Desk x = new Desk();
            x.points(n);
            for (int kind = 0; kind <= 4; kind++) {
                int steps = n == 2 ? 1 : 0;
                CHECK.due("greedy of " + n + " points", x.greedy(0, kind), steps);
                CHECK.due("chain of " + n + " points", x.chain(1, kind), steps);
                CHECK.due("greedy", x.facts(0), steps + " 0 " + n + " " + kind + " 0");
                CHECK.due("chain", x.facts(1), steps + " 0 " + n + " " + kind + " 1");
                CHECK.due("same", x.same(0, 1), true);
            }
        }
    }

    private static void greedyLinkages() {
        String[] due = {
            "0+1#2=3@1/1 2+4#3=7@2/1 3+5#4=15@6/1",
            "0+1#2=3@1/1 2+4#3=7@5/1 3+5#4=15@10/1",
            "0+1#2=3@1/1 2+4#3=7@7/2 3+5#4=15@25/3",
            "0+1#2=3@1/1 2+4#3=7@13/3 3+5#4=15@67/6",
            "0+1#2=3@1/1 2+4#3=7@7/2 3+5#4=15@35/4",
        };
        // d10 1, d20 5, d21 2, d30 9, d31 6, d32 10
        Desk x = Desk.of("4 1 5 2 9 6 10");
        for (int kind = 0; kind <= 4; kind++) {
            CHECK.due("greedy", x.greedy(0, kind), 3);
            CHECK.due("greedy of linkage " + kind, x.steps(0), due[kind]);
            CHECK.due("chain", x.chain(1, kind), 3);
            CHECK.due("chain of linkage " + kind, x.steps(1), due[kind]);
            CHECK.due("facts", x.facts(0), "3 0 4 " + kind + " 0");
            CHECK.due("facts", x.facts(1), "3 0 4 " + kind + " 1");
        }
    }

    private static void greedyTies() {
        Desk x = new Desk();
        x.points(4);
        for (int kind = 0; kind <= 4; kind++) {
            x.greedy(0, kind);
            CHECK.due("all alike", x.steps(0), "0+1#2=3@0/1 2+3#2=12@0/1 4+5#4=15@0/1");
            CHECK.due("ties", x.tree(0, 1), 2);
        }
        x = Desk.of(TIED);
        x.greedy(0, 0);
        CHECK.due("greedy", x.steps(0), "1+3#2=10@1/1 2+4#3=14@1/1 0+5#4=15@3/1");
        CHECK.due("ties", x.tree(0, 1), 1);
        x = Desk.of("3 9 9 1");
        x.greedy(0, 0);
        CHECK.due("several, but not the least", x.tree(0, 1), 0);
        // A fraction that is alike a whole number: (1 + 3) / 2 and 2.
        x = Desk.of("4 0 1 3 9 9 2");
        x.greedy(0, 2);
        CHECK.due("greedy", x.steps(0), "0+1#2=3@0/1 2+3#2=12@2/1 4+5#4=15@11/2");
        CHECK.due("ties", x.tree(0, 1), 1);
    }

    private static void chainTies() {
        Desk x = new Desk();
        x.points(4);
        for (int kind = 0; kind <= 4; kind++) {
            x.chain(0, kind);
            CHECK.due("all alike", x.steps(0), "0+1#2=3@0/1 2+3#2=12@0/1 4+5#4=15@0/1");
            CHECK.due("ties", x.tree(0, 1), 4);
        }
        x = Desk.of(TIED);
        x.chain(0, 0);
        CHECK.due("right below", x.steps(0), "2+3#2=12@1/1 1+4#3=14@1/1 0+5#4=15@3/1");
        CHECK.due("ties", x.tree(0, 1), 1);
        // 0 has 2 and 3 alike near, then 1 has 3 and 4, none of them below: the lesser number.
        x = Desk.of("4 9 3 9 3 9 9");
        x.chain(0, 0);
        CHECK.due("lesser number", x.steps(0), "0+2#2=5@3/1 3+4#3=13@3/1 1+5#4=15@9/1");
        CHECK.due("ties", x.tree(0, 1), 2);
    }

    private static void chainOrder() {
        Desk x = Desk.of(TWO_PAIRS);
        x.chain(0, 0);
        x.greedy(1, 0);
        CHECK.due("by heights", x.steps(0), "2+3#2=12@2/1 0+1#2=3@5/1 4+5#4=15@90/1");
        CHECK.due("as greedy", x.steps(1), x.steps(0));
        // Made with heights 5, 5, 2, 90, 90: those that are alike stay as they were made.
        x = Desk.of("6 5 90 90 90 90 5 90 90 90 90 90 90 90 90 2");
        x.chain(0, 1);
        CHECK.due("alike as made", x.steps(0),
                "4+5#2=48@2/1 0+1#2=3@5/1 2+3#2=12@5/1 7+8#4=15@90/1 6+9#6=63@90/1");
    }

    private static void growDeepHalves(Desk x) {
        x.points(20);
        for (int i = 0; i < 20; i++) {
            for (int j = 0; j < i; j++) {
                x.put(i, j, 100000 * i + (j == 0 ? 1 : 0));
            }
        }
        x.greedy(0, 4);
        x.chain(1, 4);
        x.text(0);
    }

    private static void deepHalves() {
        Desk x = View.behind(TreesTest::growDeepHalves);
        for (int slot = 0; slot <= 1; slot++) {
            for (int k = 0; k < 19; k++) {
                CHECK.due("bottom of step " + k, x.height(slot, k, 1), 1L << k);
                CHECK.due("top of step " + k, x.height(slot, k, 0), (100000L * (k + 1) << k) + 1);
            }
        }
        CHECK.due("last point of the order", x.order(0, 19), 19);
        String text = View.out(TreesTest::growDeepHalves);
        CHECK.due("the text's end", text.substring(text.length() - 25), ",19):498073600001/262144;");
        CHECK.due("the text's length", x.text(0), text.length());
    }

    private static void refusedTrees() {
        Desk x = Desk.of(TIED);
        x.greedy(2, 1);
        x.cut(2, 2);
        String steps = x.steps(2);
        String labels = x.labels(2);
        for (int slot : NO_SLOTS) {
            CHECK.due("greedy(" + slot + ", 0)", x.greedy(slot, 0), -1);
            CHECK.due("chain(" + slot + ", 0)", x.chain(slot, 0), -1);
        }
        for (int kind : new int[] {-1, 5, Integer.MIN_VALUE, Integer.MAX_VALUE}) {
            CHECK.due("greedy(2, " + kind + ")", x.greedy(2, kind), -1);
            CHECK.due("chain(2, " + kind + ")", x.chain(2, kind), -1);
            CHECK.due("greedy(3, " + kind + ")", x.greedy(3, kind), -1);
        }
        CHECK.due("facts", x.facts(2), "3 1 4 1 0");
        CHECK.due("steps", x.steps(2), steps);
        CHECK.due("labels", x.labels(2), labels);
        CHECK.due("no tree", x.tree(3, 0), -1);
    }

    private static void treeStays() {
        Desk x = Desk.of("3 4 6 8");
        x.greedy(0, 2);
        String steps = x.steps(0);
        CHECK.due("steps", steps, "0+1#2=3@4/1 2+3#3=7@7/1");
        x.put(0, 1, 2000000);
        CHECK.due("steps behind put", x.steps(0), steps);
        x.greedy(3, 0);
        x.points(20);
        CHECK.due("steps behind points", x.steps(0), steps);
        CHECK.due("text behind points", x.textOf(0), "((0,1):4,2):7;");
        x.readText("2 9");
        CHECK.due("steps behind read", x.steps(0), steps);
        x.chain(1, 0);
        CHECK.due("the other slots", x.steps(0), steps);
        x.chain(0, 1);
        CHECK.due("a new tree", x.steps(0), "0+1#2=3@9/1");
        CHECK.due("no step of the old tree", x.step(0, 1, 0), -1);
        CHECK.due("facts", x.facts(0), "1 0 2 1 1");
    }

    private static void tree() {
        Desk x = Desk.of(TIED);
        x.chain(3, 0);
        CHECK.due("facts", x.facts(3), "3 1 4 0 1");
        for (int slot : NO_SLOTS) {
            CHECK.due("tree(" + slot + ", 0)", x.tree(slot, 0), -1);
        }
        for (int what : new int[] {-1, 5, Integer.MIN_VALUE, Integer.MAX_VALUE}) {
            CHECK.due("tree(3, " + what + ")", x.tree(3, what), -1);
            CHECK.due("tree(0, " + what + ")", x.tree(0, what), -1);
        }
    }

    private static void step() {
        Desk x = Desk.of(TIED);
        x.greedy(1, 0);
        int[] due = {2, 4, 3, 14};
        for (int what = 0; what <= 3; what++) {
            CHECK.due("step(1, 1, " + what + ")", x.step(1, 1, what), due[what]);
        }
        int[][] wrong = {{1, -1, 0}, {1, 3, 0}, {1, 19, 0}, {1, Integer.MAX_VALUE, 0}, {1, Integer.MIN_VALUE, 0},
            {1, 0, -1}, {1, 0, 4}, {0, 0, 0}, {-1, 0, 0}, {4, 0, 0}};
        for (int[] w : wrong) {
            CHECK.due("step " + w[0] + " " + w[1] + " " + w[2], x.step(w[0], w[1], w[2]), -1);
        }
        x.points(1);
        x.greedy(1, 0);
        CHECK.due("step of one point", x.step(1, 0, 0), -1);
    }

    private static void height() {
        Desk x = Desk.of("3 1 2 2");
        x.greedy(1, 3);
        CHECK.due("top", x.height(1, 1, 0), 7);
        CHECK.due("bottom", x.height(1, 1, 1), 3);
        int[][] wrong = {{1, -1, 0}, {1, 2, 0}, {1, 19, 1}, {1, Integer.MAX_VALUE, 0}, {1, 0, -1}, {1, 0, 2},
            {0, 0, 0}, {-1, 0, 0}, {4, 0, 0}};
        for (int[] w : wrong) {
            CHECK.due("height " + w[0] + " " + w[1] + " " + w[2], x.height(w[0], w[1], w[2]), -1);
        }
    }

    private static void joins() {
        Desk x = Desk.of(TWO_PAIRS);
        x.greedy(0, 0);
        int[][] due = {{2, 3, 0}, {3, 2, 0}, {0, 1, 1}, {1, 0, 1}, {0, 2, 2}, {3, 1, 2}, {1, 1, -1}, {0, 4, -1},
            {4, 0, -1}, {-1, 0, -1}, {0, -1, -1}, {32, 1, -1}, {1, 32, -1}, {Integer.MIN_VALUE, Integer.MAX_VALUE, -1}};
        for (int[] d : due) {
            CHECK.due("joins " + d[0] + " " + d[1], x.joins(0, d[0], d[1]), d[2]);
        }
        x.points(9);
        CHECK.due("points of the tree alone", x.joins(0, 0, 4), -1);
        CHECK.due("no tree", x.joins(1, 0, 1), -1);
        CHECK.due("no slot", x.joins(4, 0, 1), -1);
    }

    private static void same() {
        Desk x = Desk.of(TIED);
        CHECK.due("no trees", x.same(0, 0), false);
        x.greedy(0, 0);
        x.chain(1, 0);
        CHECK.due("with itself", x.same(0, 0), true);
        CHECK.due("other clusters", x.same(0, 1), false);
        CHECK.due("one without a tree", x.same(0, 2), false);
        CHECK.due("one without a tree", x.same(2, 0), false);
        CHECK.due("no slot", x.same(0, 4), false);
        CHECK.due("no slot", x.same(-1, 0), false);
        x = Desk.of("3 2 4 5");
        x.greedy(0, 0);
        x.greedy(1, 1);
        CHECK.due("other heights", x.same(0, 1), false);
        x.greedy(2, 2);
        x.chain(3, 4);
        CHECK.due("alike by other ways", x.same(2, 3), true);
        x.put(0, 1, 1);
        x.greedy(2, 2);
        CHECK.due("another first height", x.same(2, 3), false);
        x.put(0, 1, 2);
        x.put(0, 2, 3);
        x.put(1, 2, 5);
        x.greedy(2, 2);
        CHECK.due("a bottom of 1 and one of 2", x.same(2, 3), false);
        x.points(0);
        x.greedy(0, 0);
        x.greedy(1, 4);
        x.points(1);
        x.greedy(2, 0);
        CHECK.due("no points", x.same(0, 1), true);
        CHECK.due("not as many points", x.same(0, 2), false);
    }

    private static void text() {
        Desk x = new Desk();
        x.write();
        CHECK.due("text without a tree", x.text(0), -1);
        CHECK.due("text without a slot", x.text(4), -1);
        CHECK.due("text without a slot", x.text(-1), -1);
        CHECK.due("out stays", x.outText(), "0");
        x.greedy(0, 0);
        CHECK.due("text", x.text(0), 1);
        CHECK.due("no points", x.outText(), ";");
        x.points(1);
        x.chain(0, 0);
        CHECK.due("text", x.text(0), 2);
        CHECK.due("one point", x.outText(), "0;");
        String[][] due = {{"2 0", "(0,1):0;"}, {"3 5 6 1", "(0,(1,2):1):11/2;"}, {"3 5 1 6", "((0,2):1,1):11/2;"},
            {TWO_PAIRS, "((0,1):5,(2,3):2):183/2;"}, {"4 9 3 9 3 9 9", "(((0,2):3,3):6,1):9;"}};
        for (String[] d : due) {
            x.readText(d[0]);
            x.greedy(0, 2);
            CHECK.due("text of " + d[0], x.text(0), d[1].length());
            CHECK.due("text of " + d[0], x.outText(), d[1]);
        }
        CHECK.due("take of a text", x.take(), due[4][1].length());
        CHECK.due("read of a text", x.read(), -1);
        CHECK.due("fault of a text", x.fault(), 0);
        x.points(12);
        x.greedy(3, 0);
        x.text(3);
        CHECK.due("two digits", x.outText(),
                "((((0,1):0,(2,3):0):0,((4,5):0,(6,7):0):0):0,((8,9):0,(10,11):0):0):0;");
    }

    private static void order() {
        Desk x = Desk.of("3 5 1 6");
        CHECK.due("no tree", x.order(0, 0), -1);
        x.greedy(0, 0);
        CHECK.due("order", x.order(0), "0 2 1");
        for (int k : new int[] {-1, 3, 20, Integer.MIN_VALUE, Integer.MAX_VALUE}) {
            CHECK.due("order(0, " + k + ")", x.order(0, k), -1);
        }
        CHECK.due("no slot", x.order(-1, 0), -1);
        CHECK.due("no slot", x.order(4, 0), -1);
        // d20 1, d31 2, d40 4, d41 5
        x.readText("5 9 1 9 9 2 9 4 5 9 9");
        x.chain(1, 0);
        CHECK.due("text of a chain", x.textOf(1), "(((0,2):1,4):4,(1,3):2):5;");
        CHECK.due("order of a chain", x.order(1), "0 2 4 1 3");
        x.points(1);
        x.greedy(2, 0);
        CHECK.due("one point", x.order(2), "0");
        x.points(0);
        x.greedy(2, 0);
        CHECK.due("no points", x.order(2, 0), -1);
    }
}
