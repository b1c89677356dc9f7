/** Promises 1 to 6 and 14: the points, their DISTANCES and PLACES, the linkage of two clusters. */
public final class PointsTest {
    private static final Check CHECK = new Check("PointsTest");

    public static void main(String[] args) {
        newObject();
        points();
        put();
        distance();
        place();
        measure();
        linkage();
        linkageRefused();
        CHECK.finish();
    }

    private static void newObject() {
        Desk x = new Desk();
        CHECK.due("distance of a new object", x.distance(0, 0), -1);
        CHECK.due("out of a new object", x.out(0), -1);
        CHECK.due("take of a new object", x.take(), 0);
        CHECK.due("end(1) of a new object", x.end(1), -1);
        CHECK.due("fault of a new object", x.fault(), -1);
        for (int slot = -1; slot <= 4; slot++) {
            CHECK.due("tree of a new object", x.tree(slot, 0), -1);
        }
        CHECK.due("table of a new object", x.table(), "0");
        CHECK.due("measure without points", x.measure(0), true);
    }

    private static void points() {
        Desk x = new Desk();
        for (int n : new int[] {0, 1, 2, 19, 20}) {
            CHECK.due("points(" + n + ")", x.points(n), n);
            CHECK.due("last point", x.distance(n - 1, n - 1), n == 0 ? -1 : 0);
            CHECK.due("one behind the last point", x.distance(n, n), -1);
        }
        x.points(3);
        x.put(0, 1, 8);
        x.place(2, 3, 4);
        for (int n : new int[] {-1, 21, Integer.MIN_VALUE, Integer.MAX_VALUE}) {
            CHECK.due("points(" + n + ")", x.points(n), -1);
            CHECK.due("table behind a refusal", x.table(), "3 8 0 0");
        }
        x.points(3);
        CHECK.due("table behind points", x.table(), "3 0 0 0");
        x.measure(1);
        CHECK.due("places behind points", x.table(), "3 0 0 0");
    }

    private static void put() {
        Desk x = new Desk();
        CHECK.due("put without points", x.put(0, 1, 1), false);
        x.points(3);
        CHECK.due("put", x.put(2, 0, 2000000), true);
        CHECK.due("put", x.put(1, 2, 7), true);
        CHECK.due("put over", x.put(2, 1, 0), true);
        CHECK.due("put over", x.put(1, 2, 9), true);
        int[][] wrong = {{-1, 0, 1}, {0, -1, 1}, {3, 0, 1}, {0, 3, 1}, {1, 1, 0}, {1, 1, 5}, {0, 1, -1},
            {0, 1, 2000001}, {Integer.MIN_VALUE, Integer.MAX_VALUE, 1}};
        for (int[] w : wrong) {
            CHECK.due("put " + w[0] + " " + w[1] + " " + w[2], x.put(w[0], w[1], w[2]), false);
        }
        CHECK.due("table", x.table(), "3 0 2000000 9");
    }

    private static void distance() {
        Desk x = new Desk();
        x.points(20);
        x.put(19, 18, 5);
        CHECK.due("distance(18, 19)", x.distance(18, 19), 5);
        CHECK.due("distance(19, 18)", x.distance(19, 18), 5);
        CHECK.due("distance(19, 19)", x.distance(19, 19), 0);
        CHECK.due("distance(20, 0)", x.distance(20, 0), -1);
        CHECK.due("distance(0, 20)", x.distance(0, 20), -1);
        CHECK.due("distance(-1, 0)", x.distance(-1, 0), -1);
        CHECK.due("distance(-1, -1)", x.distance(-1, -1), -1);
    }

    private static void place() {
        Desk x = new Desk();
        x.points(2);
        CHECK.due("place", x.place(0, -500, 500), true);
        CHECK.due("place", x.place(1, 500, -500), true);
        int[][] wrong = {{-1, 0, 0}, {2, 0, 0}, {0, -501, 0}, {0, 501, 0}, {0, 0, -501}, {0, 0, 501},
            {0, Integer.MIN_VALUE, 0}, {0, 0, Integer.MAX_VALUE}};
        for (int[] w : wrong) {
            CHECK.due("place " + w[0] + " " + w[1] + " " + w[2], x.place(w[0], w[1], w[2]), false);
        }
        CHECK.due("distance before measure", x.distance(0, 1), 0);
        x.measure(0);
        CHECK.due("the greatest distance", x.distance(0, 1), 2000000);
    }

    private static void measure() {
        Desk x = new Desk();
        x.points(3);
        x.place(0, -1, 2);
        x.place(1, 2, -2);
        x.put(0, 2, 99);
        String[] tables = {"3 25 5 8", "3 7 3 4", "3 4 2 2"};
        for (int how = 0; how < 3; how++) {
            CHECK.due("measure(" + how + ")", x.measure(how), true);
            CHECK.due("table by measure " + how, x.table(), tables[how]);
        }
        for (int how : new int[] {-1, 3, Integer.MIN_VALUE, Integer.MAX_VALUE}) {
            CHECK.due("measure(" + how + ")", x.measure(how), false);
            CHECK.due("table behind a refusal", x.table(), tables[2]);
        }
        x.readText("2 6");
        x.measure(0);
        CHECK.due("places behind read", x.distance(0, 1), 0);
        x.points(20);
        x.place(19, 500, 500);
        CHECK.due("measure of twenty", x.measure(2), true);
        CHECK.due("the last point", x.distance(0, 19), 500);
    }

    private static void fraction(Desk x, int kind, int a, int b, String want) {
        String got = x.linkage(kind, a, b, 0) + "/" + x.linkage(kind, a, b, 1);
        CHECK.due("linkage " + kind + " of " + a + " and " + b, got, want);
        got = x.linkage(kind, b, a, 0) + "/" + x.linkage(kind, b, a, 1);
        CHECK.due("linkage " + kind + " of " + b + " and " + a, got, want);
    }

    private static void linkage() {
        Desk x = new Desk();
        x.readText("4 1 5 9 2 6 10");
        fraction(x, 0, 3, 12, "2/1");
        fraction(x, 1, 3, 12, "9/1");
        fraction(x, 2, 3, 12, "11/2");
        fraction(x, 2, 1, 14, "8/3");
        // 2 / 4 (22 - 1 - 10)
        fraction(x, 3, 3, 12, "11/2");
        // 2 / 4 (8 - 1 / 3 (9 + 6 + 10))
        fraction(x, 3, 1, 14, "-1/6");
        fraction(x, 3, 1, 8, "2/1");
        fraction(x, 0, 3 | 1 << 20, 12 | 1 << 20, "2/1");
        fraction(x, 0, -16 | 1, -16 | 2, "1/1");
        x.points(4);
        for (int kind = 0; kind <= 3; kind++) {
            fraction(x, kind, 1, 14, "0/1");
        }
        x.points(20);
        for (int i = 0; i < 20; i++) {
            for (int j = 0; j < i; j++) {
                x.put(i, j, i / 10 == j / 10 ? 0 : 2000000);
            }
        }
        fraction(x, 3, 1023, 1023 << 10, "20000000/1");
        // 2 / 20 (20000000 - 180000000 / 19)
        fraction(x, 3, 1, 1048574, "20000000/19");
    }

    private static void linkageRefused() {
        Desk x = new Desk();
        CHECK.due("linkage without points", x.linkage(0, 1, 2, 0), -1);
        x.readText("4 1 5 9 2 6 10");
        int[][] wrong = {{-1, 1, 2, 0}, {4, 1, 2, 0}, {0, 1, 2, -1}, {0, 1, 2, 2}, {0, 0, 2, 0}, {0, 2, 0, 0},
            {0, 3, 2, 1}, {0, 16, 1, 0}, {0, 1, -16, 0}, {0, -1, -1, 0}};
        for (int[] w : wrong) {
            CHECK.due("linkage " + w[0] + " " + w[1] + " " + w[2] + " " + w[3], x.linkage(w[0], w[1], w[2], w[3]), -1);
        }
    }
}
