import java.nio.charset.StandardCharsets;

/** Counts the answers of a test that are not as due, and ends with exit code 1 if there was one. */
final class Check {
    private final String name;
    private int asked = 0;
    private int wrong = 0;

    Check(String name) {
        this.name = name;
    }

    void due(String call, long got, long want) {
        asked++;
        if (got != want) {
            tell(call + " answered " + got + ", due is " + want);
        }
    }

    void due(String call, boolean got, boolean want) {
        due(call, got ? 1 : 0, want ? 1 : 0);
    }

    void due(String call, String got, String want) {
        asked++;
        if (!got.equals(want)) {
            tell(call + " answered '" + got + "', due is '" + want + "'");
        }
    }

    private void tell(String line) {
        wrong++;
        if (wrong <= 40) {
            System.out.println(name + ": " + line);
        }
    }

    void finish() {
        System.out.println(name + ": " + asked + " answers, " + wrong + " not as due");
        if (wrong != 0) {
            System.exit(1);
        }
    }

    /** Puts a text behind the TAPE and cuts off what fills up the last twenty bytes. */
    static void feedText(DendroDesk x, String text, int ahead) {
        byte[] bytes = text.getBytes(StandardCharsets.ISO_8859_1);
        int at = 0;
        while (at < bytes.length) {
            int[] five = new int[5];
            for (int k = 0; k < 20; k++) {
                int b = at + k < bytes.length ? bytes[at + k] & 255 : 0;
                five[k / 4] = five[k / 4] << 8 | b;
            }
            x.feed(five[0], five[1], five[2], five[3], five[4]);
            at += 20;
        }
        x.end(ahead + bytes.length);
    }

    static int readText(DendroDesk x, String text) {
        x.end(0);
        feedText(x, text, 0);
        return x.read();
    }

    static String outText(DendroDesk x) {
        StringBuilder text = new StringBuilder();
        for (int i = 0; x.out(i) != DendroDesk.NONE; i++) {
            text.append((char) x.out(i));
        }
        return text.toString();
    }

    /** The TABLE of what there is; OUT is that then. */
    static String tableOf(DendroDesk x) {
        x.write();
        return outText(x);
    }

    /** The TEXT of a SLOT's tree, or "none"; OUT may be that then. */
    static String textOf(DendroDesk x, int slot) {
        return x.text(slot) == DendroDesk.NONE ? "none" : outText(x);
    }

    /** All labels of a SLOT's tree, one behind the other. */
    static String labelsOf(DendroDesk x, int slot) {
        StringBuilder text = new StringBuilder();
        for (int i = 0; x.label(slot, i) != DendroDesk.NONE; i++) {
            text.append(i == 0 ? "" : " ").append(x.label(slot, i));
        }
        return text.toString();
    }

    static String orderOf(DendroDesk x, int slot) {
        StringBuilder text = new StringBuilder();
        for (int k = 0; x.order(slot, k) != DendroDesk.NONE; k++) {
            text.append(k == 0 ? "" : " ").append(x.order(slot, k));
        }
        return text.toString();
    }

    /** All STEPS of a SLOT's tree: first+second#points=bits@top/bottom. */
    static String stepsOf(DendroDesk x, int slot) {
        StringBuilder text = new StringBuilder();
        for (int k = 0; k < x.tree(slot, 0); k++) {
            text.append(k == 0 ? "" : " ").append(x.step(slot, k, 0)).append('+').append(x.step(slot, k, 1));
            text.append('#').append(x.step(slot, k, 2)).append('=').append(x.step(slot, k, 3));
            text.append('@').append(x.height(slot, k, 0)).append('/').append(x.height(slot, k, 1));
        }
        return text.toString();
    }

    /** All that a SLOT's tree tells with tree(). */
    static String factsOf(DendroDesk x, int slot) {
        StringBuilder text = new StringBuilder();
        for (int what = 0; what <= 4; what++) {
            text.append(what == 0 ? "" : " ").append(x.tree(slot, what));
        }
        return text.toString();
    }
}
