import java.util.Random;

/** Holds runs of calls by fixed seeds against the model: all promises together, and that no call ever throws. */
public final class ModelTest {
    private static final int[] ODD = {
        Integer.MIN_VALUE, Integer.MAX_VALUE, -1000000, -501, -2, -1, 20, 21, 31, 32, 501, 1001, 2400, 2000001,
    };

    private final Random random;
    private final Check check;
    private final Desk x = new Desk();
    private final Model m = new Model();
    private final int greatest;
    private final boolean wild;
    private int run;

    private ModelTest(Check check, int run) {
        this.check = check;
        this.run = run;
        this.random = new Random(run);
        this.greatest = new int[] {1, 3, 10, 1000, 2000000}[random.nextInt(5)];
        this.wild = random.nextInt(4) == 0;
    }

    public static void main(String[] args) {
        Check check = new Check("ModelTest");
        for (int run = 0; run < 600; run++) {
            new ModelTest(check, run).mixedRun();
        }
        for (int run = 3000; run < 4200; run++) {
            new ModelTest(check, run).treeRun();
        }
        for (int run = 2000; run < 2400; run++) {
            new ModelTest(check, run).tableRun();
        }
        check.finish();
    }

    private int odd(int below) {
        int chance = random.nextInt(wild ? 8 : 40);
        return chance == 0 ? ODD[random.nextInt(ODD.length)] : chance == 1 ? random.nextInt() : random.nextInt(below);
    }

    private void due(String call, long got, long want) {
        check.due("run " + run + ": " + call, got, want);
    }

    private void due(String call, boolean got, boolean want) {
        due(call, got ? 1 : 0, want ? 1 : 0);
    }

    private void fill(int n) {
        due("points", x.points(n), m.points(n));
        for (int i = 0; i < n; i++) {
            for (int j = 0; j < i; j++) {
                int d = random.nextInt(greatest + 1);
                due("put", x.put(i, j, d), m.put(i, j, d));
            }
        }
    }

    private void mixedRun() {
        if (random.nextBoolean()) {
            fill(random.nextInt(12));
        }
        // One turn makes two calls at most.
        while (x.calls() <= Desk.MOST_CALLS - 2) {
            int kind = random.nextInt(28);
            if (kind < 13) {
                callPoints(kind);
            } else if (kind < 23) {
                callTrees(kind);
            } else {
                callCuts(kind);
            }
        }
    }

    private void callPoints(int kind) {
        int a = odd(21);
        int b = odd(20);
        int c = odd(greatest + 1);
        int n = m.n;
        switch (kind) {
            case 0:
                if (random.nextInt(12) == 0) {
                    due("points " + a, x.points(a), m.points(a));
                }
                break;
            case 1:
                due("put " + a + " " + b + " " + c, x.put(a, b, c), m.put(a, b, c));
                break;
            case 2:
                a = n == 0 ? a : random.nextInt(n);
                due("put " + a + " " + b + " " + c, x.put(a, b, c), m.put(a, b, c));
                break;
            case 3:
                due("distance " + a + " " + b, x.distance(a, b), m.distance(a, b));
                break;
            case 4:
                int px = odd(501) - random.nextInt(2) * 500;
                int py = odd(501) - random.nextInt(2) * 500;
                due("place " + b + " " + px + " " + py, x.place(b, px, py), m.place(b, px, py));
                break;
            case 5:
                int how = odd(4);
                if (random.nextInt(4) == 0) {
                    due("measure " + how, x.measure(how), m.measure(how));
                }
                break;
            case 6:
                due("feed", x.feed(a, b, c, n, 0x20313233), m.feed(a, b, c, n, 0x20313233));
                break;
            case 7:
                int length = odd(60);
                due("end " + length, x.end(length), m.end(length));
                break;
            case 8:
                due("take", x.take(), m.take());
                break;
            case 9:
                due("read", x.read(), m.read());
                due("fault", x.fault(), m.fault);
                break;
            case 10:
                due("write", x.write(), m.write());
                break;
            case 11:
                int at = odd(40);
                due("out " + at, x.out(at), m.out(at));
                break;
            default:
                callLinkage();
        }
    }

    private void callLinkage() {
        int kind = odd(4);
        int what = odd(2);
        int a = random.nextInt();
        int b = random.nextBoolean() ? random.nextInt() & ~a : odd(1 << 20);
        due("linkage " + kind + " " + a + " " + b, x.linkage(kind, a, b, what), m.linkage(kind, a, b, what));
    }

    private void callTrees(int kind) {
        int slot = odd(4);
        int other = odd(4);
        int k = odd(20);
        int i = odd(20);
        int what = odd(5);
        switch (kind) {
            case 13:
            case 14:
                due("greedy " + slot + " " + what, x.greedy(slot, what), m.grow(slot, what, false));
                break;
            case 15:
                due("chain " + slot + " " + what, x.chain(slot, what), m.grow(slot, what, true));
                break;
            case 16:
                due("tree " + slot + " " + what, x.tree(slot, what), m.tree(slot, what));
                break;
            case 17:
                due("step " + slot + " " + k + " " + what, x.step(slot, k, what), m.step(slot, k, what));
                break;
            case 18:
                due("height " + slot + " " + k + " " + what, x.height(slot, k, what), m.height(slot, k, what));
                break;
            case 19:
                due("joins " + slot + " " + i + " " + k, x.joins(slot, i, k), m.joins(slot, i, k));
                break;
            case 20:
                due("same " + slot + " " + other, x.same(slot, other), m.same(slot, other));
                break;
            case 21:
                due("text " + slot, x.text(slot), m.text(slot));
                break;
            default:
                due("order " + slot + " " + k, x.order(slot, k), m.order(slot, k));
        }
    }

    private void callCuts(int kind) {
        int slot = odd(4);
        int other = odd(4);
        int k = odd(20);
        int bottom = odd(9);
        int top = odd(3 * greatest);
        switch (kind) {
            case 23:
                due("cut " + slot + " " + k, x.cut(slot, k), m.cut(slot, k));
                break;
            case 24:
                due("cutAt " + slot + " " + top + " " + bottom, x.cutAt(slot, top, bottom),
                        m.cutAt(slot, top, bottom));
                break;
            case 25:
                due("label " + slot + " " + k, x.label(slot, k), m.label(slot, k));
                break;
            case 26:
                due("agree " + slot + " " + other, x.agree(slot, other), m.agree(slot, other));
                break;
            default:
                due("middle " + slot + " " + k, x.middle(slot, k), m.middle(slot, k));
        }
    }

    /** One tree: all its STEPS, or its TEXT, or some CUTS, because one object has not calls enough for all. */
    private void treeRun() {
        int n = random.nextInt(21);
        fillByTable(n);
        int kind = random.nextInt(5);
        boolean chained = random.nextBoolean();
        due("grow", chained ? x.chain(0, kind) : x.greedy(0, kind), m.grow(0, kind, chained));
        due("ties", x.tree(0, 1), m.tree(0, 1));
        if (run % 3 == 0) {
            lookAtSteps(n);
        } else if (run % 3 == 1) {
            lookAtText();
        } else {
            lookAtCuts(n);
        }
    }

    private void fillByTable(int n) {
        StringBuilder table = new StringBuilder("" + n);
        for (int k = 0; k < n * (n - 1) / 2; k++) {
            table.append(' ').append(random.nextInt(greatest + 1));
        }
        m.tape = table.toString();
        due("read", x.readText(table.toString()), m.read());
    }

    private void lookAtSteps(int n) {
        for (int k = 0; k < n; k++) {
            for (int what = 0; what < 4; what++) {
                due("step " + k + " " + what, x.step(0, k, what), m.step(0, k, what));
            }
            due("top " + k, x.height(0, k, 0), m.height(0, k, 0));
            due("bottom " + k, x.height(0, k, 1), m.height(0, k, 1));
            due("order " + k, x.order(0, k), m.order(0, k));
        }
    }

    /** A TEXT may be longer than there are calls left: then all but its first bytes. */
    private void lookAtText() {
        due("text", x.text(0), m.text(0));
        int left = Desk.MOST_CALLS - x.calls();
        for (int i = Math.max(0, m.out.length() + 1 - left); i <= m.out.length(); i++) {
            due("out " + i, x.out(i), m.out(i));
        }
    }

    private void lookAtCuts(int n) {
        while (x.calls() + 1 + 2 * n <= Desk.MOST_CALLS) {
            int k = random.nextInt(n + 1);
            if (random.nextBoolean()) {
                due("cut " + k, x.cut(0, k), m.cut(0, k));
            } else {
                int top = (int) Math.min(1000000000, Math.max(0, m.height(0, Math.min(k, n - 2), 0)));
                int bottom = (int) Math.min(1000, Math.max(1, m.height(0, Math.min(k, n - 2), 1)));
                due("cutAt " + top + " " + bottom, x.cutAt(0, top, bottom), m.cutAt(0, top, bottom));
            }
            for (int i = 0; i < n; i++) {
                due("label " + i, x.label(0, i), m.label(0, i));
                due("middle " + i, x.middle(0, i), m.middle(0, i));
            }
        }
    }

    /** Tables with small damages. */
    private void tableRun() {
        for (int table = 0; table < 25; table++) {
            String text = damagedTable();
            x.tape(text);
            m.tape = text;
            due("read of '" + text + "'", x.read(), m.read());
            due("fault of '" + text + "'", x.fault(), m.fault);
            due("write", x.write(), m.write());
        }
    }

    private String damagedTable() {
        int n = random.nextInt(7);
        StringBuilder text = new StringBuilder(blanks(0)).append(n);
        int pairs = n * (n - 1) / 2 + (random.nextInt(6) == 0 ? random.nextInt(3) - 1 : 0);
        for (int k = 0; k < pairs; k++) {
            text.append(blanks(1));
            String number = "" + random.nextInt(greatest + 1);
            text.append("0000000", 0, random.nextInt(8 - number.length())).append(number);
        }
        text.append(blanks(0));
        int damages = random.nextInt(3);
        for (int d = 0; d < damages; d++) {
            String bad = "0123456789 \n,x-\u0000\u00ff\t\r/:";
            char b = bad.charAt(random.nextInt(bad.length()));
            text.insert(random.nextInt(text.length() + 1), b);
        }
        return text.toString();
    }

    private String blanks(int least) {
        return " \n  \n".substring(random.nextInt(2), 2 + random.nextInt(3)).substring(0, least)
                + "\n \n".substring(0, random.nextInt(3) / 2);
    }
}
