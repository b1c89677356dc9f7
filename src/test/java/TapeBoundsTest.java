import java.util.function.Consumer;

/** The boundaries that promises 7 to 13 name. */
public final class TapeBoundsTest {
    private static final Check CHECK = new Check("TapeBoundsTest");
    private static final int LEAST = Integer.MIN_VALUE;
    private static final int MOST = Integer.MAX_VALUE;
    private static final int BLANKS = 0x20202020;

    public static void main(String[] args) {
        feedOrder();
        feedHowMany();
        feedTooMuch();
        end();
        endTooFar();
        endBelow0();
        take();
        takeInPlace();
        readSound();
        readPlaces();
        readFault();
        fault();
        faultWithout();
        write();
        writeGreatest();
        out();
        outRefused();
        CHECK.finish();
    }

    // ---- Promise 7

    private static void feedOrder() {
        Sentence s = CHECK.sentence("Promise 7",
                "Twenty bytes come behind the TAPE, of each number the highest first: how many it has.");
        // A byte that can't stand, in each of the twenty places.
        for (int at = 0; at < 20; at++) {
            int[] five = {BLANKS, BLANKS, BLANKS, BLANKS, BLANKS};
            five[at / 4] |= 0xff << 8 * (3 - at % 4);
            Desk x = new Desk();
            s.due("feed", x.feed(five[0], five[1], five[2], five[3], five[4]), 20);
            x.read();
            s.due("fault of byte " + at, x.fault(), at);
        }
        Desk x = new Desk();
        x.feed(0x33203120, 0x32203320, BLANKS, BLANKS, BLANKS);
        s.due("'3 1 2 3'", x.read(), 3);
        s.due("its table", x.table(), "3 1 2 3");
    }

    private static void feedHowMany() {
        Sentence s = CHECK.sentence("Promise 7", "how many it has");
        Desk x = new Desk();
        for (int k = 1; k <= 120; k++) {
            s.due("feed " + k, x.feed(0, 0, 0, 0, 0), 20 * k);
        }
        x.end(1);
        s.due("feed behind one byte", x.feed(0, 0, 0, 0, 0), 21);
        x.end(0);
        s.due("feed behind none", x.feed(0, 0, 0, 0, 0), 20);
        s.changesOnly("feed", y -> y.feed(1, 2, 3, 4, 5), View.TAPE);
    }

    private static void feedTooMuch() {
        Sentence s = CHECK.sentence("Promise 7", "NONE, and nothing comes, if there would be more than 2400.");
        for (int length : new int[] {0, 1, 2360, 2379, 2380}) {
            Desk x = new Desk();
            x.feedBlanks(120);
            x.end(length);
            s.due("feed behind " + length, x.feed(0, 0, 0, 0, 0), length + 20);
        }
        for (int length : new int[] {2381, 2382, 2399, 2400}) {
            Consumer<Desk> story = x -> {
                Sentence.rich(x);
                x.end(0);
                x.feed(0x32203720, BLANKS, BLANKS, BLANKS, BLANKS);
                x.feedBlanks(119);
                x.end(length);
            };
            s.refusedBehind(story, "feed behind " + length, x -> x.feed(-1, -1, -1, -1, -1));
        }
    }

    // ---- Promise 8

    private static void end() {
        Sentence s = CHECK.sentence("Promise 8", "The TAPE has its first n bytes alone: n.");
        for (int n = 0; n <= 7; n++) {
            int first = n;
            Desk x = Sentence.richDesk();
            s.due("end(" + n + ") of 7", x.end(n), n);
            s.due("end(" + (n + 1) + ") then", x.end(n + 1), -1);
            s.due("the tape then", View.tapeLength(y -> {
                Sentence.rich(y);
                y.end(first);
            }), n);
        }
        Desk x = new Desk();
        x.tape("3 1 2 30");
        s.due("end(7)", x.end(7), 7);
        x.read();
        s.due("the first bytes", x.table(), "3 1 2 3");
        s.changesOnly("end(6)", y -> y.end(6), View.TAPE);
        s.changesOnly("end(7)", y -> y.end(7));
    }

    private static void endTooFar() {
        Sentence s = CHECK.sentence("Promise 8", "NONE if it has not so many");
        s.due("end(7) of 7", Sentence.richDesk().end(7), 7);
        s.due("end(0) of none", new Desk().end(0), 0);
        for (int n : new int[] {8, 20, 2400, 2401, MOST}) {
            s.refused("end(" + n + ")", x -> x.end(n));
            s.due("end(" + n + ") of none", new Desk().end(n), -1);
        }
    }

    private static void endBelow0() {
        Sentence s = CHECK.sentence("Promise 8", "or n is below 0");
        s.due("end(0) of 7", Sentence.richDesk().end(0), 0);
        for (int n : new int[] {-1, -20, LEAST}) {
            s.refused("end(" + n + ")", x -> x.end(n));
            s.due("end(" + n + ") of none", new Desk().end(n), -1);
        }
    }

    // ---- Promise 9

    private static void take() {
        Sentence s = CHECK.sentence("Promise 9", "The TAPE is what OUT has");
        s.due("take of an empty OUT", new Desk().take(), 0);
        Desk x = new Desk();
        x.write();
        s.due("take of one byte", x.take(), 1);
        s.due("read of it", x.read(), 0);
        s.due("take once more", x.take(), 1);
        x = Sentence.richDesk();
        s.due("take of a text", x.take(), 24);
        s.due("read of a text", x.read(), -1);
        s.due("fault of a text", x.fault(), 0);
        x = View.behind(TapeBoundsTest::writeTwenty);
        s.due("take of the greatest table", x.take(), 1522);
        x.points(0);
        s.due("read of the greatest table", x.read(), 20);
        s.due("its last distance", x.distance(19, 18), 2000000);
        s.changesOnly("take", Desk::take, View.TAPE);
    }

    private static void takeInPlace() {
        Sentence s = CHECK.sentence("Promise 9", "in place of what it had: how many bytes.");
        Desk x = new Desk();
        x.tape("2 5");
        s.due("an empty OUT in place of 3 bytes", x.take(), 0);
        s.due("end(1) then", x.end(1), -1);
        x = new Desk();
        x.feedBlanks(120);
        x.write();
        s.due("one byte in place of 2400", x.take(), 1);
        s.due("end(2) then", x.end(2), -1);
        s.due("read then", x.read(), 0);
        x = Desk.of("3 1 2 3");
        x.write();
        x.tape("2 5");
        s.due("seven bytes in place of three", x.take(), 7);
        s.due("read then", x.read(), 3);
    }

    // ---- Promise 10

    private static void readSound() {
        Sentence s = CHECK.sentence("Promise 10",
                "The TAPE is taken, as a TABLE: n, and the points and DISTANCES are these");
        for (int n = 0; n <= 20; n++) {
            Desk x = Sentence.richDesk();
            String table = n + " 2000000".repeat(n * (n - 1) / 2);
            s.due("read of " + n, x.readText(table), n);
            s.due("distances of " + n, View.distances(x), table);
            s.due("point n of " + n, x.distance(n, n), -1);
            s.due("the tape behind it", x.end(1), -1);
        }
        s.changesOnly("read", Desk::read, View.DISTANCES, View.PLACES, View.TAPE, View.FAULT);
    }

    private static void readPlaces() {
        Sentence s = CHECK.sentence("Promise 10", "(PLACES 0, 0)");
        s.due("places behind a sound read", View.of(x -> {
            Sentence.rich(x);
            x.readText("4 1 2 3 4 5 6");
        }).get(View.PLACES), "0,0 0,0 0,0 0,0 ");
        s.due("places behind a fault", View.of(x -> {
            Sentence.rich(x);
            x.readText("4 1 2 3 4 5");
        }).get(View.PLACES), "10,-20 -30,40 50,60 -70,-80 ");
    }

    private static void readFault() {
        Sentence s = CHECK.sentence("Promise 10", "NONE: a FAULT.");
        String[] unsound = {"", " ", "x", "2", "2 x", "2 5x", "2 5 6", "21", "2 2000001", "2 00000005", "20 1", "0 0"};
        for (String text : unsound) {
            s.due("read of '" + text + "'", Sentence.richDesk().readText(text), -1);
            s.changesOnly("read of '" + text + "'", x -> x.readText(text), View.TAPE, View.FAULT);
        }
        for (String text : new String[] {"0", " 1", "2 5", "2 2000000", "2 0000005"}) {
            s.due("read of '" + text + "'", Sentence.richDesk().readText(text), text.trim().charAt(0) - '0');
        }
    }

    // ---- Promise 11

    private static void fault() {
        Sentence s = CHECK.sentence("Promise 11", "The place of the FAULT of the latest read()");
        Desk x = Desk.of("x");
        s.due("the first place", x.fault(), 0);
        s.due("asked again", x.fault(), 0);
        x.readText("2 x");
        s.due("of the latest one", x.fault(), 2);
        x.tape("2 5");
        s.due("ahead of the next read", x.fault(), 2);
        x = new Desk();
        x.feedBlanks(120);
        x.read();
        s.due("the last place", x.fault(), 2400);
        x = new Desk();
        x.feedBlanks(119);
        x.feed(BLANKS, BLANKS, BLANKS, BLANKS, 0x2020205f);
        x.read();
        s.due("the last byte", x.fault(), 2399);
        s.due("behind other calls", Sentence.richDesk().fault(), 2);
    }

    private static void faultWithout() {
        Sentence s = CHECK.sentence("Promise 11", "NONE without.");
        Desk x = new Desk();
        s.due("at first", x.fault(), -1);
        x.readText("2 5");
        s.due("behind a sound read", x.fault(), -1);
        x.readText("2 5 6");
        s.due("behind a fault", x.fault(), 4);
        x.readText("2 5");
        s.due("behind a sound read again", x.fault(), -1);
    }

    // ---- Promise 12

    private static void writeTwenty(Desk x) {
        x.points(20);
        for (int i = 0; i < 20; i++) {
            for (int j = 0; j < i; j++) {
                x.put(i, j, 2000000);
            }
        }
        x.write();
    }

    private static void write() {
        Sentence s = CHECK.sentence("Promise 12",
                "OUT is the TABLE of what there is, one blank between numbers: how many bytes.");
        String[] tables = {"0", "1", "2 0", "2 9", "2 10", "2 2000000", "3 1 2 3", "3 0 0 0", "4 100 20 3 0 50 600"};
        for (String table : tables) {
            Desk x = Sentence.richDesk();
            x.readText(table);
            s.due("write of " + table, x.write(), table.length());
            s.due("its table", x.outText(), table);
        }
        s.due("the blank", Sentence.richDesk().table().charAt(1), 32);
        s.changesOnly("write", Desk::write, View.OUT);
        Desk x = new Desk();
        x.points(9);
        s.due("write of nine", x.write(), 73);
        x.points(10);
        s.due("write of ten", x.write(), 92);
        x.points(0);
        s.due("a shorter one in its place", x.write(), 1);
        s.due("its end", x.out(1), -1);
    }

    private static void writeGreatest() {
        Sentence s = CHECK.sentence("Promise 12", "how many bytes");
        Desk x = View.behind(TapeBoundsTest::writeTwenty);
        s.due("write", x.write(), 1522);
        s.due("the last byte", x.out(1521), '0');
        s.due("one behind the last byte", x.out(1522), -1);
        s.due("all bytes", View.out(TapeBoundsTest::writeTwenty), "20" + " 2000000".repeat(190));
    }

    // ---- Promise 13

    private static void out() {
        Sentence s = CHECK.sentence("Promise 13", "Byte i of OUT");
        Desk x = Desk.of("2 907");
        x.write();
        String due = "2 907";
        for (int i = 0; i < due.length(); i++) {
            s.due("out(" + i + ")", x.out(i), due.charAt(i));
        }
        s.due("out(0) again", x.out(0), '2');
        s.due("out of a text", View.out(Sentence::rich), "((0,1):5,(2,3):2):183/2;");
    }

    private static void outRefused() {
        Sentence s = CHECK.sentence("Promise 13", "NONE if there is none such.");
        s.due("out(23) of 24", Sentence.richDesk().out(23), ';');
        s.due("out(0) of 24", Sentence.richDesk().out(0), '(');
        s.refusedEach("out(%)", (x, i) -> x.out(i), 24, 25, -1, 2399, 2400, LEAST, MOST);
        for (int i : new int[] {0, -1, 1, LEAST, MOST}) {
            s.due("out(" + i + ") of an empty OUT", new Desk().out(i), -1);
        }
        Desk x = Sentence.richDesk();
        x.points(0);
        x.write();
        s.due("out(0) of a shorter OUT", x.out(0), '0');
        s.due("out(1) of a shorter OUT", x.out(1), -1);
    }
}
