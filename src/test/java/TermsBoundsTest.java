/** The boundaries that the sentences under "Terms", 1 and 2, name: POINTS to LINKAGES, and TREES. */
public final class TermsBoundsTest {
    private static final Check CHECK = new Check("TermsBoundsTest");

    public static void main(String[] args) {
        lastCall();
        pointsAtFirst();
        pointsFrom0();
        distanceRange();
        distanceBothWays();
        distanceWithItself();
        placeRange();
        placeAtFirst();
        fractions();
        single();
        complete();
        average();
        ward();
        weighted();
        carriedOnThree();
        carriedOnUnequal();
        carriedOnTwenty();
        clusterNumbers();
        lesserNumberFirst();
        heightAndSize();
        howManySteps();
        greedyEnds();
        greedyLeastNumbers();
        greedyTies();
        chainBegins();
        chainRightBelow();
        chainTies();
        chainJoins();
        chainOrder();
        chainNumbersAnew();
        CHECK.finish();
    }

    private static String greedySteps(String table, int kind) {
        Desk x = Desk.of(table);
        x.greedy(0, kind);
        return x.steps(0);
    }

    private static String chainSteps(String table, int kind) {
        Desk x = Desk.of(table);
        x.chain(0, kind);
        return x.steps(0);
    }

    private static int greedyTies(String table, int kind) {
        Desk x = Desk.of(table);
        x.greedy(0, kind);
        return x.tree(0, 1);
    }

    private static int chainTies(String table, int kind) {
        Desk x = Desk.of(table);
        x.chain(0, kind);
        return x.tree(0, 1);
    }

    private static void spread(Desk x) {
        x.points(20);
        for (int i = 0; i < 20; i++) {
            x.place(i, i * 37 % 101 - 50, i * 53 % 89 - 40);
        }
        x.measure(0);
    }

    private static void lastCall() {
        Sentence s = CHECK.sentence("What it is", "An object is used for at most 512 calls after it has been made");
        Desk fresh = View.behind(TermsBoundsTest::spread);
        fresh.chain(3, 4);
        Desk x = View.behind(TermsBoundsTest::spread);
        for (int k = 0; x.calls() < 510; k++) {
            due19(s, k % 2 == 0 ? x.greedy(k % 3, k % 5) : x.chain(k % 3, k % 5));
        }
        s.due("call 511, chain(3, 4)", x.chain(3, 4), 19);
        s.due("call 512, height(3, 18, 0)", x.height(3, 18, 0), fresh.height(3, 18, 0));
        Desk fed = new Desk();
        for (int k = 1; k <= 511; k++) {
            fed.feed(k, k, k, k, k);
        }
        s.due("call 512, end(2400)", fed.end(2400), 2400);
    }

    private static void due19(Sentence s, int steps) {
        s.due("a tree of twenty points", steps, 19);
    }

    // ---- 1. POINTS, DISTANCE, PLACE

    private static void pointsAtFirst() {
        Sentence s = CHECK.sentence("POINTS", "n 0 .. 20 (0 at first)");
        s.due("distance(0, 0) at first", new Desk().distance(0, 0), -1);
        s.due("place(0, 0, 0) at first", new Desk().place(0, 0, 0), false);
        s.due("the table at first", new Desk().table(), "0");
        s.due("points(0)", new Desk().points(0), 0);
        s.due("points(20)", new Desk().points(20), 20);
        s.due("points(-1)", new Desk().points(-1), -1);
        s.due("points(21)", new Desk().points(21), -1);
        s.due("a table of 0", new Desk().readText("0"), 0);
        s.due("a table of 21", new Desk().readText("21" + " 1".repeat(210)), -1);
        s.due("a table of 20", new Desk().readText("20" + " 1".repeat(190)), 20);
    }

    private static void pointsFrom0() {
        Sentence s = CHECK.sentence("POINTS", "POINTS are 0 .. n - 1");
        for (int n = 1; n <= 20; n++) {
            Desk x = new Desk();
            x.points(n);
            s.due("point 0 of " + n, x.distance(0, 0), 0);
            s.due("point n - 1 of " + n, x.distance(n - 1, n - 1), 0);
            s.due("place of point n - 1 of " + n, x.place(n - 1, 1, 1), true);
            s.due("point -1 of " + n, x.distance(-1, -1), -1);
            s.due("point n of " + n, x.distance(n, n), -1);
            s.due("place of point -1 of " + n, x.place(-1, 1, 1), false);
            s.due("place of point n of " + n, x.place(n, 1, 1), false);
            s.due("put to point n of " + n, x.put(0, n, 1), false);
            s.due("put to point -1 of " + n, x.put(0, -1, 1), false);
        }
    }

    private static void distanceRange() {
        Sentence s = CHECK.sentence("DISTANCE", "a whole number 0 .. 2000000");
        Desk x = new Desk();
        x.points(2);
        s.due("put of 2000000", x.put(0, 1, 2000000), true);
        s.due("its distance", x.distance(0, 1), 2000000);
        s.due("put of 2000001", x.put(0, 1, 2000001), false);
        s.due("distance behind 2000001", x.distance(0, 1), 2000000);
        s.due("put of 0", x.put(0, 1, 0), true);
        s.due("its distance", x.distance(0, 1), 0);
        s.due("put of -1", x.put(0, 1, -1), false);
        s.due("distance behind -1", x.distance(0, 1), 0);
        s.due("read of 2000000", x.readText("2 2000000"), 2);
        s.due("its distance", x.distance(0, 1), 2000000);
        s.due("read of 2000001", x.readText("2 2000001"), -1);
        x.place(0, -500, -500);
        x.place(1, 500, 500);
        x.measure(0);
        s.due("the farthest places", x.distance(0, 1), 2000000);
    }

    private static void distanceBothWays() {
        Sentence s = CHECK.sentence("DISTANCE", "the same both ways");
        Desk x = new Desk();
        x.points(3);
        x.put(0, 1, 11);
        x.put(2, 1, 12);
        s.due("put(0, 1)", x.distance(1, 0), 11);
        s.due("put(2, 1)", x.distance(1, 2), 12);
        x.put(1, 0, 13);
        s.due("put(1, 0)", x.distance(0, 1), 13);
        x.readText("3 1 2 3");
        s.due("read 1 and 0", x.distance(0, 1), x.distance(1, 0));
        s.due("read 2 and 0", x.distance(0, 2), x.distance(2, 0));
        x.place(0, 0, 9);
        x.place(1, 3, 1);
        for (int how = 0; how <= 2; how++) {
            x.measure(how);
            s.due("measured 0 and 1", x.distance(0, 1), x.distance(1, 0));
            s.due("measured 1 and 2", x.distance(1, 2), x.distance(2, 1));
        }
    }

    private static void distanceWithItself() {
        Sentence s = CHECK.sentence("DISTANCE", "of one with itself it is 0");
        Desk x = new Desk();
        x.points(2);
        s.due("put of a point with itself", x.put(1, 1, 5), false);
        s.due("distance(1, 1)", x.distance(1, 1), 0);
        x.place(1, 3, 4);
        x.measure(1);
        s.due("distance(1, 1) measured", x.distance(1, 1), 0);
        s.due("distance(0, 1) measured", x.distance(0, 1), 7);
        x.readText("2 9");
        s.due("distance(0, 0) read", x.distance(0, 0), 0);
        s.due("distance(1, 1) read", x.distance(1, 1), 0);
    }

    private static void placeRange() {
        Sentence s = CHECK.sentence("PLACE", "x and y, -500 .. 500");
        int[][] due = {{-500, -500, 2000}, {-500, 500, 1000}, {500, -500, 1000}, {500, 500, 0}};
        for (int[] d : due) {
            Desk x = new Desk();
            x.points(2);
            x.place(1, 500, 500);
            s.due("place " + d[0] + " " + d[1], x.place(0, d[0], d[1]), true);
            x.measure(1);
            s.due("as far as from 500, 500", x.distance(0, 1), d[2]);
        }
        int[][] wrong = {{-501, 0}, {501, 0}, {0, -501}, {0, 501}};
        for (int[] w : wrong) {
            s.refusedAsFalse("place " + w[0] + " " + w[1], x -> x.place(0, w[0], w[1]));
        }
    }

    private static void placeAtFirst() {
        Sentence s = CHECK.sentence("PLACE", "(0, 0 at first)");
        Desk x = new Desk();
        x.points(20);
        x.place(0, 3, 4);
        for (int how = 0; how <= 2; how++) {
            x.measure(how);
            s.due("from 3, 4 to a point at first", x.distance(0, 19), how == 0 ? 25 : how == 1 ? 7 : 4);
            s.due("two points at first", x.distance(1, 19), 0);
        }
    }

    // ---- FRACTIONS, LINKAGES, CARRIED ON

    private static void fractions() {
        Sentence s = CHECK.sentence("FRACTIONS", "told in lowest terms, a top and a bottom above 0");
        String[][] due = {{"3 0 0 0", "0/1", "0/1"}, {"3 3 0 1", "3/2", "5/3"}, {"3 2 2 2", "2/1", "2/1"},
            {"3 1 2 5", "3/2", "1/3"}, {"3 1 2 6", "3/2", "0/1"}, {"3 1 2 7", "3/2", "-1/3"},
            {"3 1 1 8", "1/1", "-4/3"}, {"3 0 0 6", "0/1", "-2/1"}, {"3 3 6 0", "9/2", "6/1"}};
        for (String[] d : due) {
            Desk x = Desk.of(d[0]);
            s.due("AVERAGE of 0 and 1 2 in " + d[0], x.linkageOf(2, 1, 6), d[1]);
            s.due("WARD of 0 and 1 2 in " + d[0], x.linkageOf(3, 1, 6), d[2]);
        }
        s.due("a height of 4 / 2", greedySteps("3 1 2 2", 2), "0+1#2=3@1/1 2+3#3=7@2/1");
        s.due("a height of 5 / 2", greedySteps("3 1 2 3", 2), "0+1#2=3@1/1 2+3#3=7@5/2");
        s.due("a height of 0 / 2", greedySteps("3 0 0 0", 2), "0+1#2=3@0/1 2+3#3=7@0/1");
        s.due("a height of 9 / 3", greedySteps("3 1 2 3", 3), "0+1#2=3@1/1 2+3#3=7@3/1");
    }

    /** The linkage of {0, 1} and {2, 3}, both ways, when their four distances are these. */
    private static void between(Sentence s, int kind, int[] four, String want) {
        Desk x = new Desk();
        x.points(4);
        for (int k = 0; k < 4; k++) {
            x.put(k / 2, 2 + k % 2, four[k]);
        }
        s.due("of " + four[0] + " " + four[1] + " " + four[2] + " " + four[3], x.linkageOf(kind, 3, 12), want);
        s.due("of " + four[0] + " " + four[1] + " " + four[2] + " " + four[3], x.linkageOf(kind, 12, 3), want);
    }

    private static void single() {
        Sentence s = CHECK.sentence("LINKAGES", "0 SINGLE: the least DISTANCE of one of A and one of B");
        for (int k = 0; k < 4; k++) {
            int[] four = {2000000, 2000000, 2000000, 2000000};
            between(s, 0, four, "2000000/1");
            four[k] = 1999999;
            between(s, 0, four, "1999999/1");
            four[k] = 0;
            between(s, 0, four, "0/1");
        }
        s.due("of distances inside nothing counts", Desk.of("3 0 5 6").linkageOf(0, 3, 4), "5/1");
    }

    private static void complete() {
        Sentence s = CHECK.sentence("LINKAGES", "1 COMPLETE: the greatest one");
        for (int k = 0; k < 4; k++) {
            int[] four = {0, 0, 0, 0};
            between(s, 1, four, "0/1");
            four[k] = 1;
            between(s, 1, four, "1/1");
            four[k] = 2000000;
            between(s, 1, four, "2000000/1");
        }
        s.due("of distances inside nothing counts", Desk.of("3 9 5 6").linkageOf(1, 3, 4), "6/1");
    }

    private static void average() {
        Sentence s = CHECK.sentence("LINKAGES", "2 AVERAGE: S(A, B) / (a b)");
        between(s, 2, new int[] {1, 2, 3, 5}, "11/4");
        between(s, 2, new int[] {1, 2, 4, 5}, "3/1");
        between(s, 2, new int[] {0, 0, 0, 1}, "1/4");
        s.due("of two points", Desk.of("2 7").linkageOf(2, 1, 2), "7/1");
        s.due("of one and two", Desk.of("3 7 8 9").linkageOf(2, 1, 6), "15/2");
        Desk x = new Desk();
        x.points(20);
        x.put(0, 19, 2000000);
        s.due("of one and nineteen", x.linkageOf(2, 1, 1048574), "2000000/19");
        s.due("of ten and ten", x.linkageOf(2, 1023, 1047552), "20000/1");
    }

    private static void ward() {
        Sentence s = CHECK.sentence("LINKAGES",
                "3 WARD: 2 / (a + b) times (S(A, B) - b / a S(A) - a / b S(B))");
        s.due("of two points", Desk.of("2 7").linkageOf(3, 1, 2), "7/1");
        s.due("of one and two", Desk.of("3 7 8 9").linkageOf(3, 1, 6), "7/1");
        s.due("of two and one", Desk.of("3 7 8 9").linkageOf(3, 3, 4), "9/1");
        // 2 / 4 (2 + 3 + 4 + 5 - 1 - 6)
        s.due("of two and two", Desk.of("4 1 2 3 4 5 6").linkageOf(3, 3, 12), "7/2");
        // 2 / 4 (1 + 2 + 4 - 1 / 3 (3 + 5 + 6))
        s.due("of one and three", Desk.of("4 1 2 3 4 5 6").linkageOf(3, 1, 14), "7/6");
        s.due("of three and one", Desk.of("4 1 2 3 4 5 6").linkageOf(3, 14, 1), "7/6");
        Desk x = new Desk();
        x.points(20);
        for (int i = 0; i < 20; i++) {
            for (int j = 0; j < i; j++) {
                x.put(i, j, j == 0 ? 0 : 2000000);
            }
        }
        // 2 / 20 (0 - 1 / 19 171 2000000)
        s.due("the least one of one and nineteen", x.linkageOf(3, 1, 1048574), "-1800000/1");
    }

    private static void weighted() {
        Sentence s = CHECK.sentence("LINKAGES", "4 WEIGHTED: of two points their DISTANCE; of a cluster that was made"
                + " of C and D, and another one, half the sum of those of C and of D with that other one");
        s.due("of two points", greedySteps("2 2000000", 4), "0+1#2=3@2000000/1");
        s.due("of two points", chainSteps("2 0", 4), "0+1#2=3@0/1");
        s.due("of a cluster and a point", greedySteps("3 1 4 7", 4), "0+1#2=3@1/1 2+3#3=7@11/2");
        // {0, 1} and 3: (10 + 20) / 2; with 2: (15 + 40) / 2, whatever the sizes
        s.due("halves, not by sizes", greedySteps("4 1 5 5 10 20 40", 4),
                "0+1#2=3@1/1 2+4#3=7@5/1 3+5#4=15@55/2");
        s.due("halves along a chain", chainSteps("4 1 5 5 10 20 40", 4),
                "0+1#2=3@1/1 2+4#3=7@5/1 3+5#4=15@55/2");
        s.due("no linkage of clusters that are told", Desk.of("2 5").linkageOf(4, 1, 2), "-1/-1");
    }

    private static void carriedOnThree() {
        Sentence s = CHECK.sentence("CARRIED ON", "the linkage of both together with another cluster E");
        // x, y and z, and what SINGLE to WEIGHTED make of them
        String[][] due = {{"4", "6", "1", "4/1", "6/1", "5/1", "19/3", "5/1"},
            {"6", "4", "1", "4/1", "6/1", "5/1", "19/3", "5/1"}, {"5", "5", "5", "5/1", "5/1", "5/1", "5/1", "5/1"},
            {"4", "5", "3", "4/1", "5/1", "9/2", "5/1", "9/2"}, {"1", "0", "0", "0/1", "1/1", "1/2", "2/3", "1/2"},
            {"2000000", "1999999", "0", "1999999/1", "2000000/1", "3999999/2", "2666666/1", "3999999/2"}};
        for (String[] d : due) {
            String table = "3 " + d[2] + " " + d[0] + " " + d[1];
            for (int kind = 0; kind <= 4; kind++) {
                String want = "0+1#2=3@" + d[2] + "/1 2+3#3=7@" + d[3 + kind];
                s.due("linkage " + kind + " of " + table, greedySteps(table, kind), want);
                s.due("linkage " + kind + " along chains of " + table, chainSteps(table, kind), want);
            }
        }
    }

    private static void carriedOnUnequal() {
        Sentence s = CHECK.sentence("CARRIED ON", "AVERAGE: (c x + d y) / (c + d); WARD: ((c + e) x + (d + e) y - e z)"
                + " / (c + d + e); WEIGHTED: (x + y) / 2");
        // {0, 1} at 1, {3, 4} at 2, then 2 to {0, 1}, then two to three.
        String table = "5 1 3 3 20 24 30 22 28 40 2";
        String[] third = {"3/1", "3/1", "3/1", "11/3", "3/1"};
        String[] last = {"20/1", "40/1", "82/3", "938/15", "117/4"};
        for (int kind = 0; kind <= 4; kind++) {
            String want = "0+1#2=3@1/1 3+4#2=24@2/1 2+5#3=7@" + third[kind] + " 6+7#5=31@" + last[kind];
            s.due("linkage " + kind, greedySteps(table, kind), want);
            s.due("linkage " + kind + " along chains", chainSteps(table, kind), want);
        }
    }

    /** Of twenty points each HEIGHT is the linkage of the two clusters as it is defined. */
    private static void carriedOnTwenty() {
        Sentence s = CHECK.sentence("CARRIED ON", "(c, d, e points; x that of C and E, y of D and E, z of C and D)");
        for (int kind = 0; kind <= 3; kind++) {
            for (int way = 0; way <= 1; way++) {
                Desk x = View.behind(TermsBoundsTest::spread);
                int steps = way == 0 ? x.greedy(0, kind) : x.chain(0, kind);
                for (int k = 0; k < steps; k++) {
                    int one = x.step(0, k, 0);
                    int other = x.step(0, k, 1);
                    int first = one < 20 ? 1 << one : x.step(0, one - 20, 3);
                    int second = other < 20 ? 1 << other : x.step(0, other - 20, 3);
                    s.due("linkage " + kind + ", step " + k, x.heightOf(0, k), x.linkageOf(kind, first, second));
                }
            }
        }
    }

    // ---- 2. TREES

    private static void clusterNumbers() {
        Sentence s = CHECK.sentence("TREES", "points 0 .. n - 1, what STEP k (from 0 on) makes n + k");
        s.due("two points", greedySteps("2 3", 0), "0+1#2=3@3/1");
        s.due("three points", greedySteps("3 3 4 4", 0), "0+1#2=3@3/1 2+3#3=7@4/1");
        s.due("four points", greedySteps("4 9 9 9 9 9 3", 0), "2+3#2=12@3/1 0+1#2=3@9/1 4+5#4=15@9/1");
        for (int way = 0; way <= 1; way++) {
            Desk x = new Desk();
            x.layRow(20);
            s.due("steps", way == 0 ? x.greedy(0, 0) : x.chain(0, 0), 19);
            s.due("step 0", x.step(0, 0), "0+1#2=3@1/1");
            s.due("step 1", x.step(0, 1), "2+20#3=7@2/1");
            s.due("step 18", x.step(0, 18), "19+37#20=1048575@19/1");
        }
    }

    private static void lesserNumberFirst() {
        Sentence s = CHECK.sentence("TREES", "A STEP has two clusters, the lesser number first");
        s.due("a point and a cluster", greedySteps("3 9 9 1", 0), "1+2#2=6@1/1 0+3#3=7@9/1");
        s.due("a cluster and a point", greedySteps("3 1 9 9", 0), "0+1#2=3@1/1 2+3#3=7@9/1");
        // The chain 0, 2, 1 joins 2, right below, and 1, the topmost.
        s.due("the topmost is the lesser", chainSteps("3 9 3 1", 0), "1+2#2=6@1/1 0+3#3=7@3/1");
        s.due("the topmost is the greater", chainSteps("3 3 9 1", 0), "1+2#2=6@1/1 0+3#3=7@3/1");
    }

    private static void heightAndSize() {
        Sentence s = CHECK.sentence("TREES", "their linkage as its HEIGHT, and how many points");
        String two = "0+1#2=3@";
        s.due("the least height", greedySteps("2 0", 1), two + "0/1");
        s.due("the greatest height of two", greedySteps("2 2000000", 1), two + "2000000/1");
        s.due("three and one", greedySteps("4 1 2 2 9 9 9", 1), "0+1#2=3@1/1 2+4#3=7@2/1 3+5#4=15@9/1");
        s.due("two and two", greedySteps("4 1 9 9 9 9 2", 1), "0+1#2=3@1/1 2+3#2=12@2/1 4+5#4=15@9/1");
    }

    private static void howManySteps() {
        Sentence s = CHECK.sentence("TREES", "A tree has n - 1 STEPS (none, if n is below 2)");
        for (int n = 0; n <= 20; n++) {
            Desk x = new Desk();
            x.points(n);
            int due = n < 2 ? 0 : n - 1;
            for (int kind = 0; kind <= 4; kind++) {
                s.due("greedy of " + n, x.greedy(0, kind), due);
                s.due("chain of " + n, x.chain(1, kind), due);
                for (int slot = 0; slot <= 1; slot++) {
                    s.due("tree of " + n, x.tree(slot, 0), due);
                    s.due("the last step of " + n, x.step(slot, due - 1, 2), n < 2 ? -1 : n);
                    s.due("one behind the last step of " + n, x.step(slot, due, 2), -1);
                }
            }
        }
    }

    private static void greedyEnds() {
        Sentence s = CHECK.sentence("GREEDY",
                "as long as there are two clusters that are not yet joined into others");
        s.due("none", greedySteps("0", 0), "");
        s.due("one", greedySteps("1", 0), "");
        s.due("two", greedySteps("2 4", 0), "0+1#2=3@4/1");
        // 0 is nearer to 1 than all others, but 1 is joined already: what is joined counts no more.
        s.due("joined ones", greedySteps("3 2 3 1", 1), "1+2#2=6@1/1 0+3#3=7@3/1");
    }

    private static void greedyLeastNumbers() {
        Sentence s = CHECK.sentence("GREEDY", "of several that of the least first, then of the least second number");
        s.due("0 3 and 1 2", greedySteps("4 9 9 1 1 9 9", 1), "0+3#2=9@1/1 1+2#2=6@1/1 4+5#4=15@9/1");
        s.due("0 2 and 0 3", greedySteps("4 9 1 9 1 9 5", 1), "0+2#2=5@1/1 3+4#3=13@5/1 1+5#4=15@9/1");
        s.due("0 3 a little nearer than 0 2", greedySteps("4 9 2 9 1 9 5", 1),
                "0+3#2=9@1/1 2+4#3=13@5/1 1+5#4=15@9/1");
        s.due("1 3 and 2 3", greedySteps("4 9 9 9 9 1 1", 1), "1+3#2=10@1/1 0+2#2=5@9/1 4+5#4=15@9/1");
        s.due("2 3 and 2 4", greedySteps("4 1 2 2 9 9 2", 0), "0+1#2=3@1/1 2+3#2=12@2/1 4+5#4=15@2/1");
    }

    private static void greedyTies() {
        Sentence s = CHECK.sentence("TIES of GREEDY", "TIES: how often there were several");
        s.due("no points", greedyTies("0", 0), 0);
        s.due("one point", greedyTies("1", 0), 0);
        s.due("one pair", greedyTies("2 0", 0), 0);
        s.due("three pairs alike, then one", greedyTies("3 0 0 0", 0), 1);
        s.due("two pairs alike, then one", greedyTies("3 1 1 9", 0), 1);
        s.due("two pairs alike behind a greater one", greedyTies("3 9 1 1", 0), 1);
        s.due("several that are not the least, behind it", greedyTies("3 1 9 9", 0), 0);
        s.due("several that are not the least, ahead of it", greedyTies("3 9 9 1", 0), 0);
        s.due("none alike", greedyTies("3 1 2 3", 0), 0);
        s.due("six pairs, three pairs, one", greedyTies("4 5 5 5 5 5 5", 2), 2);
        s.due("two pairs, then one of three, then one", greedyTies("4 1 9 9 9 9 1", 1), 1);
        s.due("a fraction and a whole number alike", greedyTies("4 0 1 3 9 9 2", 2), 1);
        s.due("a fraction and a whole number not alike", greedyTies("4 0 1 4 9 9 2", 2), 0);
    }

    private static void chainBegins() {
        Sentence s = CHECK.sentence("CHAIN", "if the stack is empty the least of those comes onto it");
        s.due("none", chainSteps("0", 0), "");
        s.due("one", chainSteps("1", 0), "");
        s.due("two", chainSteps("2 4", 0), "0+1#2=3@4/1");
        s.due("0 at first", chainSteps("3 5 5 5", 0), "0+1#2=3@5/1 2+3#3=7@5/1");
        // Behind 0 and 1 the least one is 2, not the new cluster: it finds 3 and that 2.
        s.due("2 behind 0 and 1", chainSteps("4 1 9 9 9 9 9", 0), "0+1#2=3@1/1 2+3#2=12@9/1 4+5#4=15@9/1");
        s.due("two chains, the second one from 2", chainTies("4 1 9 9 9 9 9", 0), 2);
    }

    private static void chainRightBelow() {
        Sentence s = CHECK.sentence("CHAIN", "of several that which lies right below it on the stack, if that is one of"
                + " them, else the least number");
        // 0, 2, 3: to 3 both 1 and 2 are near.
        s.due("right below", chainSteps("4 9 3 9 9 1 1", 0), "2+3#2=12@1/1 1+4#3=14@1/1 0+5#4=15@3/1");
        s.due("right below, a little farther", chainSteps("4 9 3 9 9 1 2", 0),
                "1+3#2=10@1/1 2+4#3=14@2/1 0+5#4=15@3/1");
        // 0, 3: to 3 both 1 and 2 are near, 0 is not.
        s.due("the least number", chainSteps("4 9 9 9 5 2 2", 0), "1+3#2=10@2/1 2+4#3=14@2/1 0+5#4=15@5/1");
        s.due("not the least number, if it is farther", chainSteps("4 9 9 9 5 3 2", 0),
                "2+3#2=12@2/1 1+4#3=14@3/1 0+5#4=15@5/1");
        s.due("at the bottom the least number", chainSteps("4 9 4 9 4 9 9", 0),
                "0+2#2=5@4/1 3+4#3=13@4/1 1+5#4=15@9/1");
    }

    private static void chainTies() {
        Sentence s = CHECK.sentence("TIES of CHAIN", "(TIES: how often there were several)");
        s.due("no points", chainTies("0", 0), 0);
        s.due("one point", chainTies("1", 0), 0);
        s.due("two points", chainTies("2 0", 0), 0);
        s.due("three alike: of 0, and of 1", chainTies("3 5 5 5", 0), 2);
        s.due("none alike", chainTies("3 1 2 3", 0), 0);
        s.due("several that are not the nearest, behind it", chainTies("3 1 9 9", 0), 0);
        s.due("several that are not the nearest, ahead of it", chainTies("4 9 9 5 1 9 9", 0), 0);
        s.due("several behind a farther one", chainTies("4 9 3 9 3 9 9", 0), 2);
        s.due("right below counts as one of several", chainTies("4 9 3 9 9 1 1", 0), 1);
        s.due("others than right below", chainTies("4 9 9 9 5 2 2", 0), 1);
        s.due("alike, but of pairs that the chain never asks", chainTies("4 1 9 8 8 9 1", 0), 0);
        s.due("four alike", chainTies("4 5 5 5 5 5 5", 2), 4);
    }

    private static void chainJoins() {
        Sentence s = CHECK.sentence("CHAIN", "If the NEAREST is that which lies right below, both are taken from the"
                + " stack and joined (the new cluster has the next number, and is not on the stack)");
        // The chain 0, 1, 2: 1 and 2 are joined, and 0 is topmost again, with 3 and the new 4 alike near.
        s.due("the topmost then", chainSteps("4 6 9 2 6 9 9", 0), "1+2#2=6@2/1 0+3#2=9@6/1 4+5#4=15@6/1");
        s.due("its ties", chainTies("4 6 9 2 6 9 9", 0), 2);
        // The chain 0, 1, 2, 3 of ever nearer ones.
        s.due("a chain of all", chainSteps("4 5 9 4 9 9 3", 0), "2+3#2=12@3/1 1+4#3=14@4/1 0+5#4=15@5/1");
        Desk x = new Desk();
        x.points(20);
        for (int i = 1; i < 20; i++) {
            x.place(i, 500 - (20 - i) * (20 - i), 0);
        }
        x.place(0, 100, 0);
        x.measure(1);
        s.due("a chain of all twenty", x.chain(0, 0), 19);
        s.due("its first step", x.step(0, 0), "18+19#2=786432@3/1");
        s.due("its second step", x.step(0, 1), "17+20#3=917504@5/1");
        s.due("its last step", x.step(0, 18), "0+37#20=1048575@39/1");
    }

    private static void chainOrder() {
        Sentence s = CHECK.sentence("CHAIN",
                "the STEPS are put in order by HEIGHTS, the lesser first, those that are alike as they were made");
        s.due("5, then 2", chainSteps("4 5 90 91 92 93 2", 0), "2+3#2=12@2/1 0+1#2=3@5/1 4+5#4=15@90/1");
        s.due("2, then 5", chainSteps("4 2 90 91 92 93 5", 0), "0+1#2=3@2/1 2+3#2=12@5/1 4+5#4=15@90/1");
        s.due("5, then 5", chainSteps("4 5 90 91 92 93 5", 0), "0+1#2=3@5/1 2+3#2=12@5/1 4+5#4=15@90/1");
        // Made as 2 3 at 1, 1 with both at 1: alike, and the second one has the lesser first number.
        s.due("alike with lesser numbers", chainSteps("4 9 3 9 9 1 1", 0),
                "2+3#2=12@1/1 1+4#3=14@1/1 0+5#4=15@3/1");
        // The chain 0, 2, 3 makes 2 3 at 5, then the chain 0, 1, 4 makes 1 4 at 5.
        s.due("alike with greater numbers first", chainSteps("5 7 6 9 9 9 5 9 5 9 9", 1),
                "2+3#2=12@5/1 1+4#2=18@5/1 0+5#3=13@9/1 6+7#5=31@9/1");
        // Made as 0 1 at 2, 2 with both at 6, 3 4 at 1, 5 with both at 11 / 2.
        s.due("6 and 11 / 2", chainSteps("6 2 6 6 90 90 90 90 90 90 1 90 90 90 5 6", 2),
                "3+4#2=24@1/1 0+1#2=3@2/1 5+6#3=56@11/2 2+7#3=7@6/1 8+9#6=63@90/1");
        s.due("11 / 2 and 11 / 2", chainSteps("6 2 5 6 90 90 90 90 90 90 1 90 90 90 5 6", 2),
                "3+4#2=24@1/1 0+1#2=3@2/1 2+7#3=7@11/2 5+6#3=56@11/2 8+9#6=63@90/1");
    }

    private static void chainNumbersAnew() {
        Sentence s = CHECK.sentence("CHAIN", "all numbers are made anew by this order");
        // Made as 0 1 at 5, 2 3 at 2, 4 with 0 1 at 7: the cluster 5 of the first one is 6 then.
        s.due("changed", chainSteps("5 5 90 90 90 90 2 7 7 90 90", 0),
                "2+3#2=12@2/1 0+1#2=3@5/1 4+6#3=19@7/1 5+7#5=31@90/1");
        s.due("as they were", chainSteps("5 2 90 90 90 90 5 7 7 90 90", 0),
                "0+1#2=3@2/1 2+3#2=12@5/1 4+5#3=19@7/1 6+7#5=31@90/1");
        // Made as 0 1 at 5 (6), 2 3 at 3 (7), 4 5 at 2 (8), then 6 with 7, 8 with 9: the lesser number first again.
        s.due("the lesser first anew", chainSteps("6 5 40 40 40 40 3 90 90 90 90 90 90 90 90 2", 0),
                "4+5#2=48@2/1 2+3#2=12@3/1 0+1#2=3@5/1 7+8#4=15@40/1 6+9#6=63@90/1");
    }
}
