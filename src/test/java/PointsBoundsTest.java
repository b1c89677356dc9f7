/** The boundaries that promises 1 to 6 and 14 name. */
public final class PointsBoundsTest {
    private static final Check CHECK = new Check("PointsBoundsTest");
    private static final int LEAST = Integer.MIN_VALUE;
    private static final int MOST = Integer.MAX_VALUE;

    public static void main(String[] args) {
        newObject();
        newObjectsApart();
        pointsFromNowOn();
        pointsRefused();
        put();
        putPoints();
        putBothAreOne();
        putRange();
        distance();
        distanceRefused();
        place();
        placePoints();
        placeRange();
        measureSquares();
        measureSums();
        measureGreater();
        measureAll();
        measureRefused();
        linkage();
        linkageOtherBits();
        linkageKind();
        linkageWhat();
        linkageNoPoints();
        linkageInCommon();
        lookingChangesNothing();
        CHECK.finish();
    }

    // ---- Promise 1

    private static void newObject() {
        Sentence s = CHECK.sentence("Promise 1", "No points, no trees; TAPE and OUT are empty.");
        s.due("distance(0, 0)", new Desk().distance(0, 0), -1);
        s.due("write()", new Desk().table(), "0");
        for (int slot = 0; slot <= 3; slot++) {
            s.due("tree(" + slot + ", 0)", new Desk().tree(slot, 0), -1);
            s.due("text(" + slot + ")", new Desk().text(slot), -1);
            s.due("cut(" + slot + ", 0)", new Desk().cut(slot, 0), -1);
            s.due("same(" + slot + ", " + slot + ")", new Desk().same(slot, slot), false);
        }
        s.due("end(0)", new Desk().end(0), 0);
        s.due("end(1)", new Desk().end(1), -1);
        s.due("feed", new Desk().feed(0, 0, 0, 0, 0), 20);
        s.due("out(0)", new Desk().out(0), -1);
        s.due("take()", new Desk().take(), 0);
        s.due("read()", new Desk().read(), -1);
        s.due("fault()", new Desk().fault(), -1);
    }

    private static void newObjectsApart() {
        Sentence s = CHECK.sentence("Promise 1", "A new object");
        Desk x = Sentence.richDesk();
        Desk y = new Desk();
        s.due("points of another one", y.distance(0, 0), -1);
        s.due("tree of another one", y.tree(0, 0), -1);
        s.due("tape of another one", y.end(1), -1);
        s.due("out of another one", y.out(0), -1);
        s.due("fault of another one", y.fault(), -1);
        y.points(2);
        s.due("points of the first one", x.distance(3, 3), 0);
    }

    // ---- Promise 2

    private static void pointsFromNowOn() {
        Sentence s = CHECK.sentence("Promise 2",
                "There are n points from now on, all DISTANCES 0, all PLACES 0, 0: n.");
        for (int n = 0; n <= 20; n++) {
            Desk x = Sentence.richDesk();
            s.due("points(" + n + ")", x.points(n), n);
            s.due("distances of " + n, View.distances(x), n + " 0".repeat(n * (n - 1) / 2));
            x.place(0, 1, 2);
            x.measure(1);
            for (int i = 2; i < n; i++) {
                s.due("place of " + i, x.distance(0, i), 3);
            }
        }
        s.changesOnly("points(5)", x -> x.points(5), View.DISTANCES, View.PLACES);
        s.changesOnly("points(0)", x -> x.points(0), View.DISTANCES, View.PLACES);
        Desk x = new Desk();
        x.points(20);
        x.put(19, 18, 9);
        x.place(19, 7, 7);
        x.points(2);
        x.points(20);
        s.due("what was there before fewer", x.distance(19, 18), 0);
        x.measure(1);
        s.due("the place before fewer", x.distance(19, 18), 0);
    }

    private static void pointsRefused() {
        Sentence s = CHECK.sentence("Promise 2", "NONE: n is not 0 .. 20.");
        s.due("points(0)", new Desk().points(0), 0);
        s.due("points(20)", new Desk().points(20), 20);
        s.refusedEach("points(%)", (x, n) -> x.points(n), -1, 21, LEAST, MOST);
    }

    // ---- Promise 3

    private static void put() {
        Sentence s = CHECK.sentence("Promise 3", "The DISTANCE of two points is d: true.");
        Desk x = new Desk();
        x.points(20);
        s.due("put(0, 1, 1)", x.put(0, 1, 1), true);
        s.due("put(19, 18, 2)", x.put(19, 18, 2), true);
        s.due("put(0, 19, 3)", x.put(0, 19, 3), true);
        for (int i = 0; i < 20; i++) {
            for (int j = 0; j < i; j++) {
                int due = i == 1 ? 1 : i == 19 && j == 18 ? 2 : i == 19 && j == 0 ? 3 : 0;
                s.due("distance " + i + " " + j, x.distance(i, j), due);
            }
        }
        x = new Desk();
        x.points(2);
        x.put(0, 1, 5);
        s.due("put anew", x.put(1, 0, 4), true);
        s.due("its distance", x.distance(0, 1), 4);
        s.changesOnly("put(0, 3, 1)", y -> y.put(0, 3, 1), View.DISTANCES);
    }

    private static void putPoints() {
        Sentence s = CHECK.sentence("Promise 3", "False: one is none");
        s.due("put(3, 0, 1) of four", Sentence.richDesk().put(3, 0, 1), true);
        s.due("put(0, 3, 1) of four", Sentence.richDesk().put(0, 3, 1), true);
        for (int i : new int[] {-1, 4, 19, 20, 32, LEAST, MOST}) {
            s.refusedAsFalse("put(" + i + ", 0, 1)", x -> x.put(i, 0, 1));
            s.refusedAsFalse("put(0, " + i + ", 1)", x -> x.put(0, i, 1));
        }
        s.due("put without points", new Desk().put(0, 1, 1), false);
    }

    private static void putBothAreOne() {
        Sentence s = CHECK.sentence("Promise 3", "both are one");
        s.due("put(2, 3, 1)", Sentence.richDesk().put(2, 3, 1), true);
        for (int i = 0; i < 4; i++) {
            int one = i;
            s.refusedAsFalse("put(" + i + ", " + i + ", 0)", x -> x.put(one, one, 0));
            s.refusedAsFalse("put(" + i + ", " + i + ", 1)", x -> x.put(one, one, 1));
        }
    }

    private static void putRange() {
        Sentence s = CHECK.sentence("Promise 3", "or d is not 0 .. 2000000.");
        for (int d : new int[] {0, 1, 1999999, 2000000}) {
            Desk x = Sentence.richDesk();
            s.due("put(1, 2, " + d + ")", x.put(1, 2, d), true);
            s.due("its distance", x.distance(1, 2), d);
        }
        s.refusedEachAsFalse("put(1, 2, %)", (x, d) -> x.put(1, 2, d), -1, 2000001, LEAST, MOST);
    }

    // ---- Promise 4

    private static void distance() {
        Sentence s = CHECK.sentence("Promise 4", "The DISTANCE of two points (0 of one with itself).");
        Desk x = Sentence.richDesk();
        int[][] due = {{0, 7, 90, 92}, {7, 0, 91, 93}, {90, 91, 0, 2}, {92, 93, 2, 0}};
        for (int i = 0; i < 4; i++) {
            for (int j = 0; j < 4; j++) {
                s.due("distance(" + i + ", " + j + ")", x.distance(i, j), due[i][j]);
            }
        }
    }

    private static void distanceRefused() {
        Sentence s = CHECK.sentence("Promise 4", "NONE if one is none.");
        s.due("distance(3, 0) of four", Sentence.richDesk().distance(3, 0), 92);
        s.due("distance(0, 3) of four", Sentence.richDesk().distance(0, 3), 92);
        for (int i : new int[] {-1, 4, 19, 20, LEAST, MOST}) {
            s.refused("distance(" + i + ", 0)", x -> x.distance(i, 0));
            s.refused("distance(0, " + i + ")", x -> x.distance(0, i));
            s.refused("distance(" + i + ", " + i + ")", x -> x.distance(i, i));
        }
        Desk x = new Desk();
        x.points(20);
        s.due("distance(19, 0) of twenty", x.distance(19, 0), 0);
        s.due("distance(20, 0) of twenty", x.distance(20, 0), -1);
        s.due("distance(0, 20) of twenty", x.distance(0, 20), -1);
        s.due("distance(0, 0) of none", new Desk().distance(0, 0), -1);
    }

    // ---- Promise 5

    private static void place() {
        Sentence s = CHECK.sentence("Promise 5", "A point's PLACE: true.");
        s.changesOnly("place(3, 500, -500)", x -> x.place(3, 500, -500), View.PLACES);
        s.due("the places", View.of(x -> {
            Sentence.rich(x);
            x.place(3, 500, -500);
            x.place(0, -500, 499);
        }).get(View.PLACES), "-500,499 -30,40 50,60 500,-500 ");
        Desk x = new Desk();
        x.points(1);
        s.due("place of the only one", x.place(0, 1, 1), true);
        x.points(20);
        s.due("place of the last one", x.place(19, 1, 1), true);
    }

    private static void placePoints() {
        Sentence s = CHECK.sentence("Promise 5", "False: there is no such point");
        s.due("place(3, 0, 0) of four", Sentence.richDesk().place(3, 0, 0), true);
        s.due("place(0, 0, 0) of four", Sentence.richDesk().place(0, 0, 0), true);
        s.refusedEachAsFalse("place(%, 0, 0)", (x, i) -> x.place(i, 0, 0), -1, 4, 19, 20, LEAST, MOST);
        s.due("place without points", new Desk().place(0, 0, 0), false);
        Desk x = new Desk();
        x.points(20);
        s.due("place(20, 0, 0) of twenty", x.place(20, 0, 0), false);
    }

    private static void placeRange() {
        Sentence s = CHECK.sentence("Promise 5", "or x or y is not -500 .. 500.");
        for (int at : new int[] {-500, -499, 0, 499, 500}) {
            s.due("place(1, " + at + ", 0)", View.of(x -> {
                Sentence.rich(x);
                x.place(1, at, -at);
            }).get(View.PLACES), "10,-20 " + at + "," + -at + " 50,60 -70,-80 ");
        }
        for (int at : new int[] {-501, 501, LEAST, MOST}) {
            s.refusedAsFalse("place(1, " + at + ", 0)", x -> x.place(1, at, 0));
            s.refusedAsFalse("place(1, 0, " + at + ")", x -> x.place(1, 0, at));
            s.refusedAsFalse("place(1, " + at + ", " + at + ")", x -> x.place(1, at, at));
        }
    }

    // ---- Promise 6

    /** The distance of two points at these places, asked both ways. */
    private static void apart(Sentence s, int how, int[] from, int[] to, int want) {
        for (int turn = 0; turn <= 1; turn++) {
            Desk x = new Desk();
            x.points(2);
            x.place(turn, from[0], from[1]);
            x.place(1 - turn, to[0], to[1]);
            s.due("measure(" + how + ")", x.measure(how), true);
            s.due("from " + from[0] + " " + from[1] + " to " + to[0] + " " + to[1], x.distance(0, 1), want);
        }
    }

    private static void measureSquares() {
        Sentence s = CHECK.sentence("Promise 6",
                "how 0: the square of that in x and the square of that in y together");
        apart(s, 0, new int[] {0, 0}, new int[] {0, 0}, 0);
        apart(s, 0, new int[] {-1, 2}, new int[] {2, -2}, 25);
        apart(s, 0, new int[] {0, 5}, new int[] {0, -5}, 100);
        apart(s, 0, new int[] {-500, 500}, new int[] {500, 500}, 1000000);
        apart(s, 0, new int[] {-500, -500}, new int[] {500, 500}, 2000000);
        apart(s, 0, new int[] {-500, 500}, new int[] {500, -500}, 2000000);
    }

    private static void measureSums() {
        Sentence s = CHECK.sentence("Promise 6", "1: both (without signs) together");
        apart(s, 1, new int[] {0, 0}, new int[] {0, 0}, 0);
        apart(s, 1, new int[] {-1, 2}, new int[] {2, -2}, 7);
        apart(s, 1, new int[] {-3, 0}, new int[] {0, 3}, 6);
        apart(s, 1, new int[] {-3, 3}, new int[] {0, 0}, 6);
        apart(s, 1, new int[] {-500, -500}, new int[] {500, 500}, 2000);
        apart(s, 1, new int[] {-500, 500}, new int[] {500, -500}, 2000);
    }

    private static void measureGreater() {
        Sentence s = CHECK.sentence("Promise 6", "2: the greater one: true.");
        apart(s, 2, new int[] {0, 0}, new int[] {0, 0}, 0);
        apart(s, 2, new int[] {-1, 2}, new int[] {2, -2}, 4);
        apart(s, 2, new int[] {-1, 2}, new int[] {3, -1}, 4);
        apart(s, 2, new int[] {0, 0}, new int[] {3, -3}, 3);
        apart(s, 2, new int[] {0, 0}, new int[] {0, -7}, 7);
        apart(s, 2, new int[] {-500, 500}, new int[] {500, -500}, 1000);
    }

    private static void measureAll() {
        Sentence s = CHECK.sentence("Promise 6", "All DISTANCES become those of the PLACES");
        s.due("measure without points", new Desk().measure(0), true);
        Desk x = new Desk();
        x.points(1);
        s.due("measure of one", x.measure(2), true);
        s.due("its distance", x.distance(0, 0), 0);
        x.points(20);
        x.put(19, 18, 5);
        x.put(1, 0, 5);
        x.measure(1);
        s.due("distance(19, 18)", x.distance(19, 18), 0);
        s.due("distance(1, 0)", x.distance(1, 0), 0);
        x.place(19, 1, 0);
        s.due("before the next measure", x.distance(19, 0), 0);
        x.measure(1);
        s.due("distance(19, 0)", x.distance(19, 0), 1);
        s.due("distance(18, 19)", x.distance(18, 19), 1);
        s.changesOnly("measure(1)", y -> y.measure(1), View.DISTANCES);
    }

    private static void measureRefused() {
        Sentence s = CHECK.sentence("Promise 6", "False: another how.");
        for (int how = 0; how <= 2; how++) {
            s.due("measure(" + how + ")", Sentence.richDesk().measure(how), true);
        }
        s.refusedEachAsFalse("measure(%)", (x, how) -> x.measure(how), -1, 3, LEAST, MOST);
        s.due("measure(3) without points", new Desk().measure(3), false);
    }

    // ---- Promise 14

    private static void linkage() {
        Sentence s = CHECK.sentence("Promise 14",
                "The top (what 0) or bottom (1) of the linkage, 0 .. 3, of two clusters of points, told as bits");
        Desk x = Desk.of("3 1 2 5");
        String[] due = {"1/1", "2/1", "3/2", "1/3"};
        for (int kind = 0; kind <= 3; kind++) {
            s.due("linkage " + kind + " of 0 and 1 2", x.linkageOf(kind, 1, 6), due[kind]);
            s.due("linkage " + kind + " of 1 2 and 0", x.linkageOf(kind, 6, 1), due[kind]);
            s.due("linkage " + kind + " of 1 and 2", x.linkageOf(kind, 2, 4), "5/1");
        }
        x = new Desk();
        x.points(20);
        x.put(0, 19, 7);
        for (int kind = 0; kind <= 3; kind++) {
            s.due("linkage " + kind + " of 0 and 19", x.linkageOf(kind, 1, 1 << 19), "7/1");
        }
    }

    private static void linkageOtherBits() {
        Sentence s = CHECK.sentence("Promise 14", "(others than there are count for nothing)");
        Desk x = Desk.of("3 1 2 5");
        for (int kind = 0; kind <= 3; kind++) {
            String due = x.linkageOf(kind, 1, 6);
            s.due("with bit 3", x.linkageOf(kind, 1 | 8, 6), due);
            s.due("with bit 3 in both", x.linkageOf(kind, 1 | 8, 6 | 8), due);
            s.due("with all higher bits", x.linkageOf(kind, -8 | 1, -8 | 6), due);
            s.due("with the highest bit", x.linkageOf(kind, LEAST | 1, 6), due);
        }
        s.due("the last bit there is", x.linkageOf(0, 4, 1), "2/1");
        s.due("the first bit there is not", x.linkageOf(0, 8, 1), "-1/-1");
        x.points(20);
        s.due("bit 19 of twenty", x.linkageOf(0, 1 << 19, 1), "0/1");
        s.due("bit 20 of twenty", x.linkageOf(0, 1 << 20, 1), "-1/-1");
    }

    private static void linkageKind() {
        Sentence s = CHECK.sentence("Promise 14", "-1: another linkage or what");
        for (int kind = 0; kind <= 3; kind++) {
            s.due("linkage(" + kind + ", 1, 2, 0)", Sentence.richDesk().linkage(kind, 1, 2, 0), 7);
        }
        for (int kind : new int[] {-1, 4, 5, LEAST, MOST}) {
            s.refused("linkage(" + kind + ", 1, 2, 0)", x -> x.linkage(kind, 1, 2, 0));
            s.refused("linkage(" + kind + ", 1, 2, 1)", x -> x.linkage(kind, 1, 2, 1));
        }
    }

    private static void linkageWhat() {
        Sentence s = CHECK.sentence("Promise 14", "another linkage or what");
        s.due("linkage(2, 1, 2, 0)", Sentence.richDesk().linkage(2, 1, 2, 0), 7);
        s.due("linkage(2, 1, 2, 1)", Sentence.richDesk().linkage(2, 1, 2, 1), 1);
        s.refusedEach("linkage(2, 1, 2, %)", (x, what) -> x.linkage(2, 1, 2, what), -1, 2, LEAST, MOST);
    }

    private static void linkageNoPoints() {
        Sentence s = CHECK.sentence("Promise 14", "one has no points");
        s.due("linkage(0, 8, 1, 0) of four", Sentence.richDesk().linkage(0, 8, 1, 0), 92);
        s.due("linkage(0, 1, 8, 0) of four", Sentence.richDesk().linkage(0, 1, 8, 0), 92);
        for (int none : new int[] {0, 16, -16, LEAST}) {
            s.refused("linkage(0, " + none + ", 1, 0)", x -> x.linkage(0, none, 1, 0));
            s.refused("linkage(0, 1, " + none + ", 1)", x -> x.linkage(0, 1, none, 1));
            s.refused("linkage(3, " + none + ", " + none + ", 1)", x -> x.linkage(3, none, none, 1));
        }
        s.due("linkage without points", new Desk().linkage(0, 1, 2, 0), -1);
    }

    private static void linkageInCommon() {
        Sentence s = CHECK.sentence("Promise 14", "or both have one in common.");
        s.due("linkage(0, 3, 12, 0)", Sentence.richDesk().linkage(0, 3, 12, 0), 90);
        s.due("linkage(0, 7, 8, 0)", Sentence.richDesk().linkage(0, 7, 8, 0), 2);
        int[][] wrong = {{1, 1}, {3, 2}, {2, 3}, {8, 12}, {15, 8}, {15, 15}, {-1, -1}, {-1, 1}};
        for (int[] w : wrong) {
            s.refused("linkage(0, " + w[0] + ", " + w[1] + ", 0)", x -> x.linkage(0, w[0], w[1], 0));
            s.refused("linkage(3, " + w[0] + ", " + w[1] + ", 1)", x -> x.linkage(3, w[0], w[1], 1));
        }
        s.due("in common beyond the points alone", Sentence.richDesk().linkage(0, 17, 18, 0), 7);
    }

    private static void lookingChangesNothing() {
        Sentence s = CHECK.sentence("Not promised",
                "Nothing is promised beyond the answers and state changes described above");
        s.changesOnly("distance", x -> x.distance(0, 1));
        s.changesOnly("fault", Desk::fault);
        s.changesOnly("out", x -> x.out(0));
        s.changesOnly("linkage", x -> x.linkage(3, 3, 12, 0));
    }
}
