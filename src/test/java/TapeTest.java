/** Promises 7 to 13: THE TAPE, OUT, and TABLES. */
public final class TapeTest {
    private static final Check CHECK = new Check("TapeTest");

    public static void main(String[] args) {
        feed();
        end();
        take();
        read();
        faults();
        refusedRead();
        greatestTable();
        write();
        out();
        CHECK.finish();
    }

    private static void feed() {
        Desk x = new Desk();
        for (int k = 1; k <= 119; k++) {
            CHECK.due("feed", x.feed(0x20202020, 0x20202020, 0x20202020, 0x20202020, 0x20202020), 20 * k);
        }
        CHECK.due("end(2380)", x.end(2380), 2380);
        CHECK.due("the last feed", x.feed(0x20202020, 0x20202020, 0x20202020, 0x20202020, 0x20202031), 2400);
        CHECK.due("a feed too much", x.feed(0, 0, 0, 0, 0), -1);
        CHECK.due("read of a full tape", x.read(), 1);
        CHECK.due("feed behind read", x.feed(0, 0, 0, 0, 0), 20);
        for (int k = 2; k <= 119; k++) {
            x.feed(0, 0, 0, 0, 0);
        }
        x.write();
        CHECK.due("take", x.take(), 1);
        CHECK.due("feed behind take", x.feed(0x20202020, 0x20202020, 0x20202020, 0x20202020, -1), 21);
        CHECK.due("read", x.read(), -1);
        CHECK.due("the highest byte is first", x.fault(), 17);
        x.feed(0x33203120, 0x32203320, 0x20202020, 0x0a0a0a0a, 0x20202020);
        CHECK.due("read", x.read(), 3);
        CHECK.due("table", x.table(), "3 1 2 3");
    }

    private static void end() {
        Desk x = new Desk();
        CHECK.due("end(0)", x.end(0), 0);
        CHECK.due("end(1)", x.end(1), -1);
        x.feed(0x31313131, 0x31313131, 0x31313131, 0x31313131, 0x31313131);
        for (int n : new int[] {-1, 21, Integer.MIN_VALUE, Integer.MAX_VALUE}) {
            CHECK.due("end(" + n + ")", x.end(n), -1);
        }
        CHECK.due("end(20)", x.end(20), 20);
        CHECK.due("end(2)", x.end(2), 2);
        CHECK.due("end(3)", x.end(3), -1);
        CHECK.due("feed", x.feed(0, 0, 0, 0, 0), 22);
        x.end(1);
        CHECK.due("read", x.read(), 1);
        CHECK.due("end(1) behind read", x.end(1), -1);
    }

    private static void take() {
        Desk x = Desk.of("3 7 8 9");
        x.write();
        x.points(2);
        x.tape("2 55555 no");
        CHECK.due("take", x.take(), 7);
        CHECK.due("end(8) behind take", x.end(8), -1);
        CHECK.due("out behind take", x.outText(), "3 7 8 9");
        CHECK.due("read", x.read(), 3);
        CHECK.due("table", x.table(), "3 7 8 9");
        Desk y = new Desk();
        y.tape("1");
        CHECK.due("take of nothing", y.take(), 0);
        CHECK.due("end(1)", y.end(1), -1);
    }

    private static void read() {
        Desk x = new Desk();
        String[][] sound = {{"0", "0"}, {"1", "1"}, {"0000000", "0"}, {"2 5", "2 5"}, {"\n 2\n\n 0000007 \n", "2 7"},
            {"0000003 2000000 0 1", "3 2000000 0 1"}, {"4 1 2 3 4 5 6", "4 1 2 3 4 5 6"}};
        for (String[] s : sound) {
            x.points(2);
            x.place(0, 3, 3);
            CHECK.due("read of '" + s[0] + "'", x.readText(s[0]), s[1].charAt(0) - '0');
            CHECK.due("fault of '" + s[0] + "'", x.fault(), -1);
            CHECK.due("table of '" + s[0] + "'", x.table(), s[1]);
            x.measure(0);
            CHECK.due("place behind read", Math.max(0, x.distance(0, 1)), 0);
        }
        x.readText("4 1 2 3 4 5 6");
        CHECK.due("distance(1, 0)", x.distance(1, 0), 1);
        CHECK.due("distance(2, 0)", x.distance(2, 0), 2);
        CHECK.due("distance(2, 1)", x.distance(2, 1), 3);
        CHECK.due("distance(0, 3)", x.distance(0, 3), 4);
        CHECK.due("distance(3, 2)", x.distance(3, 2), 6);
    }

    private static void faults() {
        Desk x = Desk.of("2 44");
        Object[][] unsound = {{"", 0}, {"  ", 2}, {"2", 1}, {"2 ", 2}, {"21", 0}, {" 21x", 1}, {"x", 0}, {"2x", 1},
            {"-1", 0}, {"00000002 1", 0}, {"2 2000001", 2}, {"2 2000001 x", 2}, {"2 9999999", 2}, {"2 00000001", 2},
            {"2 12345678901x", 2}, {"2 1x", 3}, {"2 1 x", 4}, {"2 1 7", 4}, {"2 1  7 8", 5}, {"0 0", 2}, {"1 1", 2},
            {"0x", 1}, {"3 1 2", 5}, {"3 1 2\n\n", 7}, {"3 1,2 3", 3}, {"2\t5", 1}, {"2 5\r", 3}, {"2 5\u0000", 3},
            {"2 \u00ff5", 2}, {"2 3/", 3}, {"2 3:", 3}, {"3 1 2 2000001", 6}, {"3 x 21", 2}, {"2 5 99999999", 4}};
        for (Object[] u : unsound) {
            CHECK.due("read of '" + u[0] + "'", x.readText((String) u[0]), -1);
            CHECK.due("fault of '" + u[0] + "'", x.fault(), (Integer) u[1]);
        }
        CHECK.due("table behind faults", x.table(), "2 44");
        CHECK.due("points keep the fault", x.points(1) + x.fault(), 5);
        x.readText("2 7");
        CHECK.due("fault behind a sound read", x.fault(), -1);
    }

    private static void refusedRead() {
        Desk x = new Desk();
        x.points(2);
        x.place(0, 3, 4);
        x.put(0, 1, 6);
        x.greedy(1, 0);
        x.text(1);
        x.tape("3 1 2 3 4");
        CHECK.due("read", x.read(), -1);
        CHECK.due("fault", x.fault(), 8);
        CHECK.due("the tape is empty", x.end(1), -1);
        CHECK.due("out stays", x.outText(), "(0,1):6;");
        CHECK.due("distance stays", x.distance(0, 1), 6);
        x.measure(0);
        CHECK.due("place stays", x.distance(0, 1), 25);
        CHECK.due("tree stays", x.steps(1), "0+1#2=3@6/1");
        CHECK.due("read of nothing", x.read(), -1);
        CHECK.due("fault of nothing", x.fault(), 0);
    }

    private static void fillGreatest(Desk x) {
        x.points(20);
        for (int i = 0; i < 20; i++) {
            for (int j = 0; j < i; j++) {
                x.put(i, j, 2000000 - 20 * j - i);
            }
        }
        x.write();
    }

    private static void greatestTable() {
        Desk x = new Desk();
        fillGreatest(x);
        CHECK.due("write", x.write(), 1522);
        CHECK.due("take", x.take(), 1522);
        x.points(0);
        CHECK.due("read", x.read(), 20);
        CHECK.due("distance(7, 19)", x.distance(7, 19), 1999841);
        CHECK.due("table read and written", View.out(y -> {
            fillGreatest(y);
            y.take();
            y.points(0);
            y.read();
            y.write();
        }), View.out(TapeTest::fillGreatest));
        StringBuilder full = new StringBuilder("20");
        for (int k = 0; k < 190; k++) {
            full.append("   \n00").append(k);
        }
        x = new Desk();
        CHECK.due("length of the full table", full.length() <= 2400, true);
        CHECK.due("read of the full table", x.readText(full.toString()), 20);
        CHECK.due("distance(1, 0)", x.distance(1, 0), 0);
        CHECK.due("distance(19, 18)", x.distance(19, 18), 189);
        CHECK.due("distance(10, 0)", x.distance(10, 0), 45);
    }

    private static void write() {
        Desk x = new Desk();
        CHECK.due("write", x.write(), 1);
        CHECK.due("out", x.outText(), "0");
        x.points(1);
        CHECK.due("write", x.write(), 1);
        CHECK.due("out", x.outText(), "1");
        x.points(3);
        x.put(0, 1, 10);
        x.put(0, 2, 2000000);
        x.put(1, 2, 909);
        CHECK.due("write", x.write(), 16);
        CHECK.due("out", x.outText(), "3 10 2000000 909");
        x.points(2);
        CHECK.due("out stays", x.outText(), "3 10 2000000 909");
        CHECK.due("write", x.write(), 3);
        CHECK.due("out", x.outText(), "2 0");
        x.points(10);
        x.write();
        CHECK.due("two digits", x.outText().substring(0, 5), "10 0 ");
    }

    private static void out() {
        Desk x = new Desk();
        CHECK.due("out(0)", x.out(0), -1);
        x.points(2);
        x.write();
        CHECK.due("out(0)", x.out(0), '2');
        CHECK.due("out(1)", x.out(1), 32);
        CHECK.due("out(2)", x.out(2), '0');
        for (int i : new int[] {-1, 3, 2400, Integer.MIN_VALUE, Integer.MAX_VALUE}) {
            CHECK.due("out(" + i + ")", x.out(i), -1);
        }
    }
}
