/** The boundaries that the sentences under "Terms", 3, name: TEXTS, SLOTS, and the rule on refusals. */
public final class TextsBoundsTest {
    private static final Check CHECK = new Check("TextsBoundsTest");
    private static final int BLANKS = 0x20202020;

    public static void main(String[] args) {
        tapeLength();
        tableDigits();
        tableBlanks();
        tableOfBlanksAlone();
        tableOrder();
        tableEnds();
        faultByte();
        faultTooGreat();
        faultEighthDigit();
        faultTooMuch();
        faultTooFew();
        faultFirst();
        textOfPoint();
        textLesserLeastPoint();
        textBottom();
        textOfAll();
        order();
        slots();
        slotsAtFirst();
        treeStays();
        twoRefusals();
        refusedChangesNothing();
        tapeIsEmptyBehind();
        CHECK.finish();
    }

    private static int readAs(String text) {
        return new Desk().readText(text);
    }

    private static int faultOf(String text) {
        Desk x = Desk.of(text);
        return x.fault();
    }

    private static void sound(Sentence s, String text, String table) {
        Desk x = new Desk();
        s.due("read of '" + text + "'", x.readText(text), Integer.parseInt(table.split(" ")[0]));
        s.due("fault of '" + text + "'", x.fault(), -1);
        s.due("table of '" + text + "'", x.table(), table);
    }

    private static void unsound(Sentence s, String text, int fault) {
        Desk x = Desk.of("2 77");
        s.due("read of '" + text + "'", x.readText(text), -1);
        s.due("fault of '" + text + "'", x.fault(), fault);
        s.due("table behind '" + text + "'", x.table(), "2 77");
    }

    // ---- 3. TEXTS: THE TAPE, TABLE

    private static void tapeLength() {
        Sentence s = CHECK.sentence("THE TAPE", "THE TAPE has at most 2400 bytes");
        Desk x = new Desk();
        x.feedBlanks(119);
        s.due("end(2380)", x.end(2380), 2380);
        s.due("twenty more", x.feed(BLANKS, BLANKS, BLANKS, BLANKS, BLANKS), 2400);
        s.due("twenty more", x.feed(BLANKS, BLANKS, BLANKS, BLANKS, BLANKS), -1);
        s.due("end(2401)", x.end(2401), -1);
        s.due("end(2400)", x.end(2400), 2400);
        s.due("end(2381)", x.end(2381), 2381);
        s.due("2401 bytes", x.feed(0, 0, 0, 0, 0), -1);
        s.due("end(2381)", x.end(2381), 2381);
        s.due("end(2380)", x.end(2380), 2380);
        s.due("2400 bytes", x.feed(0x20202031, BLANKS, BLANKS, BLANKS, BLANKS), 2400);
        s.due("read of 2400 bytes", x.read(), 1);
    }

    private static void tableDigits() {
        Sentence s = CHECK.sentence("TABLE", "numbers (1 to 7 digits, perhaps with 0s ahead)");
        sound(s, "0", "0");
        sound(s, "2 5", "2 5");
        sound(s, "0000002 0000005", "2 5");
        sound(s, "0000020" + " 1".repeat(190), "20" + " 1".repeat(190));
        sound(s, "2 2000000", "2 2000000");
        sound(s, "2 0000000", "2 0");
        sound(s, "2 1000000", "2 1000000");
        unsound(s, "", 0);
        unsound(s, "00000002 5", 0);
        unsound(s, "2 00000005", 2);
        unsound(s, "2 00000000", 2);
        // Every byte in the place of a digit: of 0 to 9 the last one is the greatest, 47 and 58 are none.
        for (int b = 0; b < 256; b++) {
            Desk x = new Desk();
            x.readText("2 0" + (char) b);
            boolean digit = b >= '0' && b <= '9';
            boolean blank = b == 32 || b == 10;
            s.due("fault of '2 0' and byte " + b, x.fault(), digit || blank ? -1 : 3);
            s.due("distance of '2 0' and byte " + b, x.distance(0, 1), digit ? b - 48 : blank ? 0 : -1);
        }
    }

    private static void tableBlanks() {
        Sentence s = CHECK.sentence("TABLE", "with blanks (32, 10) between");
        for (int b = 0; b < 256; b++) {
            boolean blank = b == 32 || b == 10;
            boolean digit = b >= '0' && b <= '9';
            int due = blank ? -1 : digit ? 0 : 1;
            s.due("fault of '2', byte " + b + ", '5'", faultOf("2" + (char) b + "5"), due);
            s.due("read of '2', byte " + b + ", '5'", readAs("2" + (char) b + "5"), blank ? 2 : -1);
        }
        sound(s, "3\n1 \n 2  \n\n3", "3 1 2 3");
        unsound(s, "312", 0);
        sound(s, "2" + " ".repeat(2300) + "5", "2 5");
    }

    private static void tableOfBlanksAlone() {
        Sentence s = CHECK.sentence("TABLE", "A TABLE: numbers");
        unsound(s, "", 0);
        unsound(s, " ", 1);
        unsound(s, "\n", 1);
        sound(s, "\n0", "0");
        Desk x = new Desk();
        x.feedBlanks(120);
        s.due("read of 2400 blanks", x.read(), -1);
        s.due("their fault", x.fault(), 2400);
    }

    private static void tableOrder() {
        Sentence s = CHECK.sentence("TABLE",
                "n, then the DISTANCES of 1 and 0, of 2 and 0, 2 and 1, of 3 and 0, and so on");
        sound(s, "0", "0");
        sound(s, "1", "1");
        Desk x = new Desk();
        StringBuilder table = new StringBuilder("20");
        for (int k = 1; k <= 190; k++) {
            table.append(' ').append(k);
        }
        s.due("read of twenty points", x.readText(table.toString()), 20);
        int next = 1;
        for (int i = 1; i < 20; i++) {
            for (int j = 0; j < i; j++) {
                s.due("distance " + i + " " + j, x.distance(i, j), next);
                next++;
            }
        }
        x = Desk.of("4 1 2 3 4 5 6");
        s.due("1 and 0", x.distance(1, 0), 1);
        s.due("2 and 0", x.distance(2, 0), 2);
        s.due("2 and 1", x.distance(2, 1), 3);
        s.due("3 and 0", x.distance(3, 0), 4);
        s.due("3 and 2", x.distance(3, 2), 6);
    }

    private static void tableEnds() {
        Sentence s = CHECK.sentence("TABLE", "blanks may stand at both ends");
        String[] ends = {"", " ", "\n", " \n \n\n", " ".repeat(1000)};
        for (String ahead : ends) {
            for (String behind : ends) {
                sound(s, ahead + "2 5" + behind, "2 5");
                sound(s, ahead + "1" + behind, "1");
            }
        }
        unsound(s, "\t2 5", 0);
        unsound(s, "2 5\t", 3);
        unsound(s, "2 5 \r", 4);
    }

    // ---- FAULTS

    private static void faultByte() {
        Sentence s = CHECK.sentence("FAULTS", "the first byte that can't stand");
        unsound(s, "x", 0);
        unsound(s, " x", 1);
        unsound(s, "2x", 1);
        unsound(s, "2 x", 2);
        unsound(s, "2 5x", 3);
        unsound(s, "2 5 x", 4);
        unsound(s, "3 1 2,3", 5);
        unsound(s, "3 1 -2 3", 4);
        unsound(s, "0x", 1);
        unsound(s, "1x", 1);
        unsound(s, "2 1234567x", 9);
        unsound(s, "2 5" + " ".repeat(2000) + "x", 2003);
    }

    private static void faultTooGreat() {
        Sentence s = CHECK.sentence("FAULTS", "of a number that is too great");
        sound(s, "20" + " 0".repeat(190), "20" + " 0".repeat(190));
        unsound(s, "21" + " 0".repeat(210), 0);
        unsound(s, "  21", 2);
        unsound(s, "9999999", 0);
        unsound(s, "0000021", 0);
        sound(s, "2 2000000", "2 2000000");
        unsound(s, "2 2000001", 2);
        unsound(s, "2 9999999", 2);
        unsound(s, "2  2000001 ", 3);
        sound(s, "3 2000000 2000000 2000000", "3 2000000 2000000 2000000");
        unsound(s, "3 2000000 2000000 2000001", 18);
        unsound(s, "3 0 2000001 0", 4);
    }

    private static void faultEighthDigit() {
        Sentence s = CHECK.sentence("FAULTS", "or has an eighth digit, that number's first byte");
        sound(s, "0000001", "1");
        unsound(s, "00000001", 0);
        unsound(s, " 00000001", 1);
        sound(s, "2 0000001", "2 1");
        unsound(s, "2 00000001", 2);
        unsound(s, "2 00000001x", 2);
        unsound(s, "2 123456789012345678901234567890", 2);
        unsound(s, "2 42949672970", 2);
        unsound(s, "3 1 00000002 3", 4);
        unsound(s, "2 " + "0".repeat(2398), 2);
    }

    private static void faultTooMuch() {
        Sentence s = CHECK.sentence("FAULTS", "of what is too much its first byte");
        sound(s, "0", "0");
        unsound(s, "0 0", 2);
        sound(s, "1", "1");
        unsound(s, "1 0", 2);
        unsound(s, "1\n\n12", 3);
        sound(s, "2 5", "2 5");
        unsound(s, "2 5 6", 4);
        unsound(s, "2 5 123456", 4);
        unsound(s, "2 5 99999999", 4);
        unsound(s, "2 5 \n6 7 8", 5);
        sound(s, "20" + " 3".repeat(190), "20" + " 3".repeat(190));
        unsound(s, "20" + " 3".repeat(191), 383);
    }

    private static void faultTooFew() {
        Sentence s = CHECK.sentence("FAULTS", "the end, if there are too few");
        unsound(s, "", 0);
        unsound(s, "   ", 3);
        unsound(s, "2", 1);
        unsound(s, "2 ", 2);
        unsound(s, "2\n\n", 3);
        sound(s, "2 4", "2 4");
        unsound(s, "3 1 2", 5);
        unsound(s, "3 1 2 ", 6);
        sound(s, "3 1 2 3", "3 1 2 3");
        unsound(s, "20" + " 3".repeat(189), 380);
        sound(s, "20" + " 3".repeat(190), "20" + " 3".repeat(190));
    }

    private static void faultFirst() {
        Sentence s = CHECK.sentence("FAULTS", "the first byte that can't stand");
        unsound(s, "3 x 2000001", 2);
        unsound(s, "3 2000001 x", 2);
        unsound(s, "3 1 x", 4);
        unsound(s, "2000001x", 0);
        unsound(s, "21 x", 0);
        unsound(s, "2 5x 6", 3);
        unsound(s, "3 00000001 9999999 x", 2);
    }

    // ---- THE TEXT, THE ORDER

    private static String greedyText(String table, int kind) {
        Desk x = Desk.of(table);
        x.greedy(0, kind);
        return x.textOf(0);
    }

    /** A row of twenty points, each nearer to the one ahead than to the one behind. */
    private static void growRow(Desk x) {
        x.layRow(20);
        x.greedy(0, 0);
    }

    private static void textOfPoint() {
        Sentence s = CHECK.sentence("THE TEXT", "of a point its number");
        s.due("of 0", greedyText("1", 0), "0;");
        s.due("of 0 and 1", greedyText("2 3", 0), "(0,1):3;");
        StringBuilder due = new StringBuilder("0");
        for (int i = 1; i < 20; i++) {
            due.insert(0, '(').append(',').append(i).append("):").append(i);
        }
        s.due("of 0 to 19", View.behind(TextsBoundsTest::growRow).textOf(0), due.append(';').toString());
    }

    private static void textLesserLeastPoint() {
        Sentence s = CHECK.sentence("THE TEXT", "that of the one with the lesser least point, a comma, that of the"
                + " other one");
        s.due("points", greedyText("2 1", 0), "(0,1):1;");
        s.due("the second cluster has it", greedyText("3 1 9 9", 0), "((0,1):1,2):9;");
        s.due("the first cluster has it", greedyText("3 9 9 1", 0), "(0,(1,2):1):9;");
        s.due("the later cluster has it", greedyText("4 2 9 9 9 9 1", 0), "((0,1):2,(2,3):1):9;");
        s.due("the earlier cluster has it", greedyText("4 1 9 9 9 9 2", 0), "((0,1):1,(2,3):2):9;");
        s.due("the least counts, not the greatest", greedyText("4 9 9 1 1 9 9", 0), "((0,3):1,(1,2):1):9;");
        s.due("not how many", greedyText("4 9 9 1 9 2 2", 0), "(0,((1,2):1,3):2):9;");
    }

    private static void textBottom() {
        Sentence s = CHECK.sentence("THE TEXT", "its HEIGHT's top, and, if the bottom is not 1, / and that");
        s.due("a bottom of 1", greedyText("3 1 4 4", 2), "((0,1):1,2):4;");
        s.due("a bottom of 2", greedyText("3 1 4 5", 2), "((0,1):1,2):9/2;");
        s.due("2 / 2 is 1", greedyText("3 1 1 1", 2), "((0,1):1,2):1;");
        s.due("a height of 0", greedyText("3 0 0 0", 2), "((0,1):0,2):0;");
        s.due("1 / 2", greedyText("3 0 0 1", 2), "((0,1):0,2):1/2;");
        s.due("a top of ten", greedyText("2 10", 0), "(0,1):10;");
        s.due("a top of seven digits", greedyText("2 2000000", 0), "(0,1):2000000;");
    }

    private static void textOfAll() {
        Sentence s = CHECK.sentence("THE TEXT",
                "of all the last STEP's, then ; (of one point 0; and without points just ;)");
        s.due("no points", greedyText("0", 0), ";");
        s.due("one point", greedyText("1", 0), "0;");
        s.due("two points", greedyText("2 6", 0), "(0,1):6;");
        Desk x = new Desk();
        x.chain(0, 3);
        s.due("no points by a chain", x.textOf(0), ";");
        x.points(1);
        x.chain(0, 3);
        s.due("one point by a chain", x.textOf(0), "0;");
        x.points(2);
        x.chain(0, 3);
        s.due("two points by a chain", x.textOf(0), "(0,1):0;");
    }

    private static String greedyOrder(String table) {
        Desk x = Desk.of(table);
        x.greedy(0, 0);
        return x.order(0);
    }

    private static void order() {
        Sentence s = CHECK.sentence("THE ORDER", "that in which they stand in its TEXT");
        s.due("no points", greedyOrder("0"), "");
        s.due("one point", greedyOrder("1"), "0");
        s.due("two points", greedyOrder("2 9"), "0 1");
        s.due("((0,2),1)", greedyOrder("3 9 1 9"), "0 2 1");
        s.due("(0,(1,2))", greedyOrder("3 9 9 1"), "0 1 2");
        s.due("((0,3),(1,2))", greedyOrder("4 9 9 1 1 9 9"), "0 3 1 2");
        s.due("((0,1),(2,3)), the later one first", greedyOrder("4 2 9 9 9 9 1"), "0 1 2 3");
        // Each as far from 0 as its number tells, backwards.
        Desk x = new Desk();
        x.points(20);
        for (int i = 1; i < 20; i++) {
            x.place(i, (20 - i) * (21 - i) / 2, 0);
        }
        x.measure(1);
        x.greedy(0, 0);
        s.due("twenty points", x.order(0), "0 19 18 17 16 15 14 13 12 11 10 9 8 7 6 5 4 3 2 1");
    }

    // ---- SLOTS, and refusals

    private static void slots() {
        Sentence s = CHECK.sentence("SLOTS", "SLOTS 0 .. 3 have a tree each");
        Desk x = new Desk();
        for (int slot = 0; slot <= 3; slot++) {
            x.points(slot + 1);
            s.due("greedy in " + slot, x.greedy(slot, slot), slot);
        }
        for (int slot = 0; slot <= 3; slot++) {
            s.due("facts of " + slot, x.facts(slot), slot + " " + new int[] {0, 0, 1, 2}[slot] + " " + (slot + 1)
                    + " " + slot + " 0");
        }
        for (int none : new int[] {-1, 4}) {
            s.refused("greedy(" + none + ", 0)", y -> y.greedy(none, 0));
            s.refused("chain(" + none + ", 0)", y -> y.chain(none, 0));
            s.refused("tree(" + none + ", 0)", y -> y.tree(none, 0));
            s.refused("text(" + none + ")", y -> y.text(none));
            s.refused("cut(" + none + ", 1)", y -> y.cut(none, 1));
        }
    }

    private static void slotsAtFirst() {
        Sentence s = CHECK.sentence("SLOTS", "or none (at first)");
        for (int slot = 0; slot <= 3; slot++) {
            Desk x = new Desk();
            x.points(3);
            s.due("tree(" + slot + ", 0) at first", x.tree(slot, 0), -1);
            s.due("label(" + slot + ", 0) at first", x.label(slot, 0), -1);
            x.greedy(slot, 0);
            for (int other = 0; other <= 3; other++) {
                s.due("tree(" + other + ", 2) behind greedy(" + slot + ", 0)", x.tree(other, 2),
                        other == slot ? 3 : -1);
            }
        }
    }

    private static void treeStays() {
        Sentence s = CHECK.sentence("SLOTS", "a tree stays as it is when DISTANCES change");
        s.changesOnly("put", x -> x.put(0, 1, 2000000), View.DISTANCES);
        s.changesOnly("measure", x -> x.measure(0), View.DISTANCES);
        s.changesOnly("points(0)", x -> x.points(0), View.DISTANCES, View.PLACES);
        s.changesOnly("points(20)", x -> x.points(20), View.DISTANCES, View.PLACES);
        s.changesOnly("read", Desk::read, View.DISTANCES, View.PLACES, View.TAPE, View.FAULT);
        Desk x = Sentence.richDesk();
        x.put(0, 1, 2000000);
        s.due("the tree of what was", x.textOf(0), "((0,1):5,(2,3):2):183/2;");
        x.greedy(0, 2);
        s.due("the tree of what is", x.textOf(0).equals("((0,1):5,(2,3):2):183/2;"), false);
    }

    private static void twoRefusals() {
        Sentence s = CHECK.sentence("Refusals", "Of two refusals the first one that is told counts");
        s.refusedAsFalse("put(9, 9, -1)", x -> x.put(9, 9, -1));
        s.refusedAsFalse("put(4, 0, 2000001)", x -> x.put(4, 0, 2000001));
        s.refused("distance(-1, 4)", x -> x.distance(-1, 4));
        s.refusedAsFalse("place(4, 501, -501)", x -> x.place(4, 501, -501));
        s.refused("linkage(4, 0, 0, 2)", x -> x.linkage(4, 0, 0, 2));
        s.refused("greedy(4, 5)", x -> x.greedy(4, 5));
        s.refused("chain(-1, -1)", x -> x.chain(-1, -1));
        s.refused("tree(3, 5)", x -> x.tree(3, 5));
        s.refused("step(3, 99, 9)", x -> x.step(3, 99, 9));
        s.refused("height(4, -1, 2)", x -> x.height(4, -1, 2));
        s.refused("joins(3, 9, 9)", x -> x.joins(3, 9, 9));
        s.refusedAsFalse("same(3, 4)", x -> x.same(3, 4));
        s.refused("cut(4, 0)", x -> x.cut(4, 0));
        s.refused("cutAt(0, -1, 0)", x -> x.cutAt(0, -1, 0));
        s.refused("cutAt(3, 1000000001, 1001)", x -> x.cutAt(3, 1000000001, 1001));
        s.refused("label(3, 4)", x -> x.label(3, 4));
        s.refused("agree(3, -1)", x -> x.agree(3, -1));
        s.refused("middle(4, 4)", x -> x.middle(4, 4));
        unsound(s, "2 2000001 5", 2);
        unsound(s, "2 x 2000001", 2);
    }

    private static void refusedChangesNothing() {
        Sentence s = CHECK.sentence("Refusals", "a call that is refused changes nothing but the TAPE");
        s.refused("points(21)", x -> x.points(21));
        s.refused("points(-1)", x -> x.points(-1));
        s.refusedAsFalse("put(0, 4, 1)", x -> x.put(0, 4, 1));
        s.refusedAsFalse("measure(3)", x -> x.measure(3));
        s.refused("end(8)", x -> x.end(8));
        s.refused("out(-1)", x -> x.out(-1));
        s.refused("text(3)", x -> x.text(3));
        s.due("a read that is refused", Sentence.richDesk().readText("3 1 2 3 4"), -1);
        s.changesOnly("a read that is refused", x -> x.readText("3 1 2 3 4"), View.TAPE, View.FAULT);
    }

    private static void tapeIsEmptyBehind() {
        Sentence s = CHECK.sentence("Refusals", "the TAPE, which is empty behind each call that takes it");
        for (String text : new String[] {"2 5", "2 x", "21", "", "2 5 6", " ".repeat(2400)}) {
            Desk x = new Desk();
            x.readText(text);
            s.due("end(1) behind '" + text + "'", x.end(1), -1);
            s.due("feed behind '" + text + "'", x.feed(0, 0, 0, 0, 0), 20);
        }
        s.changesOnly("write", Desk::write, View.OUT);
        s.changesOnly("text", x -> x.text(1), View.OUT);
        s.changesOnly("greedy", x -> x.greedy(1, 0), View.tree(1), View.labels(1));
        s.changesOnly("chain", x -> x.chain(3, 0), View.tree(3), View.labels(3));
    }
}
