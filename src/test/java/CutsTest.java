/** Promises 24 to 28: CUTS, labels, how cuts agree, and the point in the middle. */
public final class CutsTest {
    private static final Check CHECK = new Check("CutsTest");
    // 0 and 3, 1 and 4 are near; 2 comes to 1 and 4: (0,3):1  (1,4):2  (1,2,4):7/2  all:8
    private static final String TABLE = "5 8 8 3 1 8 8 8 2 4 8";

    public static void main(String[] args) {
        tree();
        cut();
        cutSmall();
        cutAt();
        cutAtFractions();
        label();
        agree();
        middle();
        middleRefused();
        CHECK.finish();
    }

    private static Desk averaged(String table) {
        Desk x = Desk.of(table);
        x.greedy(0, 2);
        return x;
    }

    private static void tree() {
        CHECK.due("the tree", averaged(TABLE).textOf(0), "((0,3):1,((1,4):2,2):7/2):8;");
    }

    private static void cut() {
        Desk x = averaged(TABLE);
        String[] due = {"0 0 0 0 0", "0 1 1 0 1", "0 1 2 0 1", "0 1 2 0 3", "0 1 2 3 4"};
        for (int k = 5; k >= 1; k--) {
            CHECK.due("cut(0, " + k + ")", x.cut(0, k), k);
            CHECK.due("labels of cut " + k, x.labels(0), due[k - 1]);
        }
        x.cut(0, 3);
        for (int k : new int[] {-1, 0, 6, Integer.MIN_VALUE, Integer.MAX_VALUE}) {
            CHECK.due("cut(0, " + k + ")", x.cut(0, k), -1);
            CHECK.due("labels stay", x.labels(0), due[2]);
        }
        CHECK.due("no tree", x.cut(1, 1), -1);
        CHECK.due("no slot", x.cut(-1, 1), -1);
        CHECK.due("no slot", x.cut(4, 1), -1);
    }

    private static void cutSmall() {
        Desk x = new Desk();
        x.greedy(0, 0);
        CHECK.due("cut of none into 0", x.cut(0, 0), 0);
        CHECK.due("cut of none into 1", x.cut(0, 1), -1);
        CHECK.due("cutAt of none", x.cutAt(0, 0, 1), 0);
        x.points(1);
        x.greedy(1, 0);
        CHECK.due("cut of one into 0", x.cut(1, 0), -1);
        CHECK.due("cut of one into 1", x.cut(1, 1), 1);
        CHECK.due("cut of one into 2", x.cut(1, 2), -1);
        CHECK.due("cutAt of one", x.cutAt(1, 0, 1), 1);
        x.points(20);
        x.greedy(2, 0);
        CHECK.due("cut of twenty", x.cut(2, 20), 20);
        CHECK.due("its last label", x.label(2, 19), 19);
        CHECK.due("cut of twenty", x.cut(2, 21), -1);
        CHECK.due("cutAt of twenty", x.cutAt(2, 0, 1000), 1);
    }

    private static void cutAt() {
        Desk x = averaged(TABLE);
        int[][] due = {{0, 1, 5}, {999, 1000, 5}, {1, 1, 4}, {199, 100, 4}, {2, 1, 3}, {3, 1, 3}, {349, 100, 3},
            {7, 2, 2}, {3500, 1000, 2}, {3499, 1000, 3}, {799, 100, 2}, {8, 1, 1}, {1000000000, 1, 1},
            {1000000000, 1000, 1}};
        String[] labels = {"", "0 0 0 0 0", "0 1 1 0 1", "0 1 2 0 1", "0 1 2 0 3", "0 1 2 3 4"};
        for (int[] d : due) {
            CHECK.due("cutAt " + d[0] + "/" + d[1], x.cutAt(0, d[0], d[1]), d[2]);
            CHECK.due("labels of cutAt " + d[0] + "/" + d[1], x.labels(0), labels[d[2]]);
        }
        x.cut(0, 2);
        int[][] wrong = {{0, -1, 1}, {0, 1000000001, 1}, {0, Integer.MIN_VALUE, 1}, {0, 1, 0}, {0, 1, -1},
            {0, 1, 1001}, {0, 1, Integer.MAX_VALUE}, {1, 1, 1}, {-1, 1, 1}, {4, 1, 1}};
        for (int[] w : wrong) {
            CHECK.due("cutAt " + w[0] + " " + w[1] + " " + w[2], x.cutAt(w[0], w[1], w[2]), -1);
            CHECK.due("labels stay", x.labels(0), labels[2]);
        }
    }

    private static void cutAtFractions() {
        Desk x = new Desk();
        x.points(20);
        for (int i = 0; i < 20; i++) {
            for (int j = 0; j < i; j++) {
                x.put(i, j, 100000 * i + (j == 0 ? 1 : 0));
            }
        }
        x.greedy(0, 4);
        for (int k = 1; k <= 19; k++) {
            CHECK.due("just below step " + (k - 1), x.cutAt(0, 100000 * k, 1), 21 - k);
            CHECK.due("just above step " + (k - 1), x.cutAt(0, 100000 * k + 1, 1), 20 - k);
        }
    }

    private static void label() {
        Desk x = averaged(TABLE);
        CHECK.due("labels ahead of any cut", x.labels(0), "0 0 0 0 0");
        x.greedy(1, 0);
        x.cut(0, 5);
        CHECK.due("labels of another slot", x.labels(1), "0 0 0 0 0");
        x.points(9);
        CHECK.due("labels behind points", x.labels(0), "0 1 2 3 4");
        for (int i : new int[] {-1, 5, 20, Integer.MIN_VALUE, Integer.MAX_VALUE}) {
            CHECK.due("label(0, " + i + ")", x.label(0, i), -1);
        }
        CHECK.due("no tree", x.label(2, 0), -1);
        CHECK.due("no slot", x.label(-1, 0), -1);
        CHECK.due("no slot", x.label(4, 0), -1);
        x.chain(0, 1);
        CHECK.due("labels of a new tree", x.labels(0), "0 0 0 0 0 0 0 0 0");
    }

    private static void agree() {
        Desk x = averaged(TABLE);
        x.greedy(1, 2);
        CHECK.due("ahead of any cut", x.agree(0, 1), 10);
        x.cut(0, 5);
        CHECK.due("all apart and all together", x.agree(0, 1), 0);
        CHECK.due("with itself", x.agree(0, 0), 10);
        x.cut(1, 2);
        // Together in the second one alone: 0 3, 1 2, 1 4, 2 4.
        CHECK.due("five and two", x.agree(0, 1), 6);
        CHECK.due("two and five", x.agree(1, 0), 6);
        x.cut(0, 3);
        CHECK.due("three and two", x.agree(0, 1), 8);
        CHECK.due("one without a tree", x.agree(0, 2), -1);
        CHECK.due("one without a tree", x.agree(2, 0), -1);
        CHECK.due("no slot", x.agree(0, 4), -1);
        CHECK.due("no slot", x.agree(-1, 0), -1);
        x.points(4);
        x.greedy(2, 0);
        CHECK.due("not as many points", x.agree(0, 2), -1);
        CHECK.due("trees count, not the desk", x.agree(0, 1), 8);
        x.points(1);
        x.greedy(2, 0);
        CHECK.due("one point", x.agree(2, 2), 0);
    }

    private static void middle() {
        Desk x = averaged("5 1 3 2 7 6 4 20 19 17 13");
        // On a line: 0, 1, 3, 7, 20.
        CHECK.due("of all", x.middle(0, 4), 2);
        x.cut(0, 2);
        CHECK.due("labels", x.labels(0), "0 0 0 0 1");
        CHECK.due("of several the least", x.middle(0, 3), 1);
        CHECK.due("of one", x.middle(0, 4), 4);
        x.put(0, 1, 0);
        x.put(0, 2, 0);
        x.put(0, 3, 1);
        CHECK.due("distances as they are now", x.middle(0, 3), 0);
        x.put(0, 4, 2000000);
        x.put(1, 4, 0);
        CHECK.due("of the cluster alone", x.middle(0, 2), 0);
        CHECK.due("of one", x.middle(0, 4), 4);
        x.points(20);
        for (int i = 0; i < 20; i++) {
            for (int j = 0; j < i; j++) {
                x.put(i, j, i == 19 ? 1999999 : 2000000);
            }
        }
        x.greedy(0, 0);
        CHECK.due("of twenty", x.middle(0, 0), 19);
    }

    private static void middleRefused() {
        Desk x = averaged(TABLE);
        for (int i : new int[] {-1, 5, 20, Integer.MIN_VALUE, Integer.MAX_VALUE}) {
            CHECK.due("middle(0, " + i + ")", x.middle(0, i), -1);
        }
        CHECK.due("no tree", x.middle(1, 0), -1);
        CHECK.due("no slot", x.middle(-1, 0), -1);
        CHECK.due("no slot", x.middle(4, 0), -1);
        x.points(4);
        CHECK.due("fewer points now", x.middle(0, 0), -1);
        x.points(6);
        CHECK.due("more points now", x.middle(0, 0), -1);
        x.points(5);
        CHECK.due("as many points now", x.middle(0, 3), 0);
        x.points(0);
        x.greedy(0, 0);
        CHECK.due("no points", x.middle(0, 0), -1);
    }
}
