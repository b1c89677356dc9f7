/**
 * A desk as the document allows it: of an object that has had its 512 calls nothing is promised, so a test that asks
 * for one more is a wrong test, and ends.
 */
final class Desk {
    static final int MOST_CALLS = 512;

    private final DendroDesk object = new DendroDesk();
    private int calls = 0;

    /** A new desk with the points and DISTANCES of a TABLE. */
    static Desk of(String table) {
        Desk x = new Desk();
        x.readText(table);
        return x;
    }

    /** How many calls the object has had. */
    int calls() {
        return calls;
    }

    private DendroDesk asked() {
        calls++;
        if (calls > MOST_CALLS) {
            throw new IllegalStateException("the test asks one object for more than " + MOST_CALLS + " calls");
        }
        return object;
    }

    int points(int n) {
        return asked().points(n);
    }

    boolean put(int i, int j, int d) {
        return asked().put(i, j, d);
    }

    int distance(int i, int j) {
        return asked().distance(i, j);
    }

    boolean place(int i, int x, int y) {
        return asked().place(i, x, y);
    }

    boolean measure(int how) {
        return asked().measure(how);
    }

    int feed(int a, int b, int c, int d, int e) {
        return asked().feed(a, b, c, d, e);
    }

    int end(int n) {
        return asked().end(n);
    }

    int take() {
        return asked().take();
    }

    int read() {
        return asked().read();
    }

    int fault() {
        return asked().fault();
    }

    int write() {
        return asked().write();
    }

    int out(int i) {
        return asked().out(i);
    }

    long linkage(int kind, int a, int b, int what) {
        return asked().linkage(kind, a, b, what);
    }

    int greedy(int slot, int kind) {
        return asked().greedy(slot, kind);
    }

    int chain(int slot, int kind) {
        return asked().chain(slot, kind);
    }

    int tree(int slot, int what) {
        return asked().tree(slot, what);
    }

    int step(int slot, int k, int what) {
        return asked().step(slot, k, what);
    }

    long height(int slot, int k, int what) {
        return asked().height(slot, k, what);
    }

    int joins(int slot, int i, int j) {
        return asked().joins(slot, i, j);
    }

    boolean same(int s, int t) {
        return asked().same(s, t);
    }

    int text(int slot) {
        return asked().text(slot);
    }

    int order(int slot, int k) {
        return asked().order(slot, k);
    }

    int cut(int slot, int k) {
        return asked().cut(slot, k);
    }

    int cutAt(int slot, int top, int bottom) {
        return asked().cutAt(slot, top, bottom);
    }

    int label(int slot, int i) {
        return asked().label(slot, i);
    }

    int agree(int s, int t) {
        return asked().agree(s, t);
    }

    int middle(int slot, int i) {
        return asked().middle(slot, i);
    }

    // ---- several calls at once

    /** Makes the TAPE a text, in place of what it had. */
    void tape(String text) {
        end(0);
        for (int at = 0; at < text.length(); at += 20) {
            int[] five = new int[5];
            for (int k = 0; k < 20; k++) {
                int b = at + k < text.length() ? text.charAt(at + k) & 255 : 0;
                five[k / 4] = five[k / 4] << 8 | b;
            }
            feed(five[0], five[1], five[2], five[3], five[4]);
        }
        end(text.length());
    }

    int readText(String text) {
        tape(text);
        return read();
    }

    /** Puts twenty blanks behind the TAPE, so many times. */
    void feedBlanks(int times) {
        for (int k = 0; k < times; k++) {
            feed(0x20202020, 0x20202020, 0x20202020, 0x20202020, 0x20202020);
        }
    }

    /** Makes n points in a row, each as far from the one ahead as its number tells: they join one by one. */
    void layRow(int n) {
        points(n);
        for (int i = 1; i < n; i++) {
            place(i, i * (i + 1) / 2, 0);
        }
        measure(1);
    }

    /** All bytes of OUT, one call for each and one for the end. */
    String outText() {
        StringBuilder text = new StringBuilder();
        for (int b = out(0); b != DendroDesk.NONE; b = out(text.length())) {
            text.append((char) b);
        }
        return text.toString();
    }

    /** The TABLE of what there is; OUT is that then. */
    String table() {
        write();
        return outText();
    }

    /** The TEXT of a SLOT's tree, or "none"; OUT may be that then. */
    String textOf(int slot) {
        return text(slot) == DendroDesk.NONE ? "none" : outText();
    }

    /** All labels of a SLOT's tree, one behind the other. */
    String labels(int slot) {
        StringBuilder text = new StringBuilder();
        int i = 0;
        for (int label = label(slot, i); label != DendroDesk.NONE; label = label(slot, i)) {
            text.append(i == 0 ? "" : " ").append(label);
            i++;
        }
        return text.toString();
    }

    String order(int slot) {
        StringBuilder text = new StringBuilder();
        int k = 0;
        for (int point = order(slot, k); point != DendroDesk.NONE; point = order(slot, k)) {
            text.append(k == 0 ? "" : " ").append(point);
            k++;
        }
        return text.toString();
    }

    /** STEP k of a SLOT's tree: first+second#points=bits@top/bottom. */
    String step(int slot, int k) {
        return step(slot, k, 0) + "+" + step(slot, k, 1) + "#" + step(slot, k, 2) + "=" + step(slot, k, 3) + "@"
                + heightOf(slot, k);
    }

    String heightOf(int slot, int k) {
        return height(slot, k, 0) + "/" + height(slot, k, 1);
    }

    String steps(int slot) {
        StringBuilder text = new StringBuilder();
        int count = tree(slot, 0);
        for (int k = 0; k < count; k++) {
            text.append(k == 0 ? "" : " ").append(step(slot, k));
        }
        return text.toString();
    }

    /** All that tree() tells of a SLOT: STEPS, TIES, points, linkage, and whether by CHAIN. */
    String facts(int slot) {
        StringBuilder text = new StringBuilder();
        for (int what = 0; what <= 4; what++) {
            text.append(what == 0 ? "" : " ").append(tree(slot, what));
        }
        return text.toString();
    }

    /** The linkage of two clusters, told as bits: top/bottom. */
    String linkageOf(int kind, int a, int b) {
        return linkage(kind, a, b, 0) + "/" + linkage(kind, a, b, 1);
    }
}
