import java.math.BigInteger;
import java.util.ArrayList;
import java.util.List;
import java.util.TreeMap;
import java.util.TreeSet;
import java.util.regex.Matcher;
import java.util.regex.Pattern;

/**
 * The document in its own words and by other means than the class: sets, texts and fractions of big numbers. Trees
 * carry their linkages on as fractions, by the rule of Lance and Williams, and hold them against the definitions.
 */
final class Model {
    static final class Fraction implements Comparable<Fraction> {
        final BigInteger top;
        final BigInteger bottom;

        Fraction(BigInteger top, BigInteger bottom) {
            BigInteger divisor = top.gcd(bottom);
            BigInteger sign = BigInteger.valueOf(bottom.signum());
            this.top = top.divide(divisor).multiply(sign);
            this.bottom = bottom.divide(divisor).multiply(sign);
        }

        static Fraction of(long top, long bottom) {
            return new Fraction(BigInteger.valueOf(top), BigInteger.valueOf(bottom));
        }

        Fraction plus(Fraction other) {
            return new Fraction(top.multiply(other.bottom).add(other.top.multiply(bottom)),
                    bottom.multiply(other.bottom));
        }

        Fraction times(long number, long by) {
            return new Fraction(top.multiply(BigInteger.valueOf(number)), bottom.multiply(BigInteger.valueOf(by)));
        }

        @Override
        public int compareTo(Fraction other) {
            return top.multiply(other.bottom).compareTo(other.top.multiply(bottom));
        }

        long part(int what) {
            return (what == 0 ? top : bottom).longValueExact();
        }

        String told() {
            return bottom.equals(BigInteger.ONE) ? top.toString() : top + "/" + bottom;
        }
    }

    static final class Cluster {
        int number;
        final TreeSet<Integer> points = new TreeSet<>();
        Cluster one;
        Cluster other;
        Fraction height;
    }

    static final class Grown {
        int n;
        int kind;
        int ties;
        boolean chained;
        final List<Cluster> steps = new ArrayList<>();
        int[] labels;
        String text;
        final List<Integer> order = new ArrayList<>();
    }

    int n = 0;
    int[][] apart = new int[0][0];
    int[][] places = new int[0][2];
    String tape = "";
    String out = "";
    int fault = -1;
    final Grown[] slots = new Grown[4];

    int points(int count) {
        if (count < 0 || count > 20) {
            return -1;
        }
        n = count;
        apart = new int[n][n];
        places = new int[n][2];
        return n;
    }

    boolean isPoint(int i) {
        return 0 <= i && i < n;
    }

    boolean put(int i, int j, int d) {
        if (!isPoint(i) || !isPoint(j) || i == j || d < 0 || d > 2000000) {
            return false;
        }
        apart[i][j] = d;
        apart[j][i] = d;
        return true;
    }

    int distance(int i, int j) {
        return isPoint(i) && isPoint(j) ? apart[i][j] : -1;
    }

    boolean place(int i, int x, int y) {
        if (!isPoint(i) || x < -500 || x > 500 || y < -500 || y > 500) {
            return false;
        }
        places[i] = new int[] {x, y};
        return true;
    }

    boolean measure(int how) {
        if (how != 0 && how != 1 && how != 2) {
            return false;
        }
        for (int i = 0; i < n; i++) {
            for (int j = 0; j < n; j++) {
                int dx = Math.abs(places[i][0] - places[j][0]);
                int dy = Math.abs(places[i][1] - places[j][1]);
                apart[i][j] = how == 0 ? dx * dx + dy * dy : how == 1 ? dx + dy : Math.max(dx, dy);
            }
        }
        return true;
    }

    int feed(int... numbers) {
        if (tape.length() + 20 > 2400) {
            return -1;
        }
        StringBuilder more = new StringBuilder(tape);
        for (int number : numbers) {
            for (int shift = 24; shift >= 0; shift -= 8) {
                more.append((char) (number >>> shift & 255));
            }
        }
        tape = more.toString();
        return tape.length();
    }

    int end(int count) {
        if (count < 0 || count > tape.length()) {
            return -1;
        }
        tape = tape.substring(0, count);
        return count;
    }

    int take() {
        tape = out;
        return tape.length();
    }

    int read() {
        String table = tape;
        tape = "";
        List<Integer> numbers = new ArrayList<>();
        fault = faultOf(table, numbers);
        if (fault != -1) {
            return -1;
        }
        points(numbers.get(0));
        int next = 1;
        for (int i = 1; i < n; i++) {
            for (int j = 0; j < i; j++) {
                put(i, j, numbers.get(next++));
            }
        }
        return n;
    }

    private static int faultOf(String table, List<Integer> numbers) {
        Matcher word = Pattern.compile("[^ \n]+").matcher(table);
        while (word.find()) {
            if (numbers.size() > 0 && numbers.size() == 1 + numbers.get(0) * (numbers.get(0) - 1) / 2) {
                return word.start();
            }
            String digits = word.group().replaceFirst("(?s)[^0-9].*", "");
            int most = numbers.isEmpty() ? 20 : 2000000;
            if (digits.isEmpty() || digits.length() > 7 || Integer.parseInt(digits) > most) {
                return word.start();
            }
            if (digits.length() < word.group().length()) {
                return word.start() + digits.length();
            }
            numbers.add(Integer.parseInt(digits));
        }
        boolean enough = !numbers.isEmpty() && numbers.size() == 1 + numbers.get(0) * (numbers.get(0) - 1) / 2;
        return enough ? -1 : table.length();
    }

    int write() {
        StringBuilder table = new StringBuilder().append(n);
        for (int i = 1; i < n; i++) {
            for (int j = 0; j < i; j++) {
                table.append(' ').append(apart[i][j]);
            }
        }
        out = table.toString();
        return out.length();
    }

    int out(int i) {
        return 0 <= i && i < out.length() ? out.charAt(i) : -1;
    }

    private TreeSet<Integer> pointsOf(int bits) {
        TreeSet<Integer> found = new TreeSet<>();
        for (int i = 0; i < n; i++) {
            if ((bits & 1 << i) != 0) {
                found.add(i);
            }
        }
        return found;
    }

    long linkage(int kind, int a, int b, int what) {
        TreeSet<Integer> one = pointsOf(a);
        TreeSet<Integer> other = pointsOf(b);
        TreeSet<Integer> common = new TreeSet<>(one);
        common.retainAll(other);
        if (kind < 0 || kind > 3 || what < 0 || what > 1 || one.isEmpty() || other.isEmpty() || !common.isEmpty()) {
            return -1;
        }
        return defined(kind, one, other).part(what);
    }

    private Fraction defined(int kind, TreeSet<Integer> one, TreeSet<Integer> other) {
        List<Integer> all = new ArrayList<>();
        long sum = 0;
        for (int i : one) {
            for (int j : other) {
                all.add(apart[i][j]);
                sum += apart[i][j];
            }
        }
        all.sort(null);
        long a = one.size();
        long b = other.size();
        switch (kind) {
            case 0:
                return Fraction.of(all.get(0), 1);
            case 1:
                return Fraction.of(all.get(all.size() - 1), 1);
            case 2:
                return Fraction.of(sum, a * b);
            default:
                return Fraction.of(sum, 1).plus(Fraction.of(-b * within(one), a))
                        .plus(Fraction.of(-a * within(other), b)).times(2, a + b);
        }
    }

    private long within(TreeSet<Integer> cluster) {
        long sum = 0;
        for (int i : cluster) {
            for (int j : cluster.headSet(i)) {
                sum += apart[i][j];
            }
        }
        return sum;
    }

    /** Grows one tree; what is not yet joined stands in a map by number, and linkages in one by both numbers. */
    private final class Growing {
        final int kind;
        final TreeMap<Integer, Cluster> free = new TreeMap<>();
        final TreeMap<Integer, Fraction> links = new TreeMap<>();
        final Grown grown = new Grown();

        Growing(int kind, boolean chained) {
            this.kind = kind;
            grown.n = n;
            grown.kind = kind;
            grown.chained = chained;
            grown.labels = new int[n];
            for (int i = 0; i < n; i++) {
                Cluster point = new Cluster();
                point.number = i;
                point.points.add(i);
                free.put(i, point);
                for (int j = 0; j < i; j++) {
                    links.put(key(i, j), Fraction.of(apart[i][j], 1));
                }
            }
        }

        int key(int a, int b) {
            return Math.max(a, b) * 100 + Math.min(a, b);
        }

        Fraction link(int a, int b) {
            return links.get(key(a, b));
        }

        void join(int first, int second) {
            Cluster made = new Cluster();
            made.number = n + grown.steps.size();
            made.one = free.remove(first);
            made.other = free.remove(second);
            made.points.addAll(made.one.points);
            made.points.addAll(made.other.points);
            made.height = link(first, second);
            for (Cluster other : free.values()) {
                Fraction carried = carried(made, other);
                if (kind < 4 && carried.compareTo(defined(kind, made.points, other.points)) != 0) {
                    throw new IllegalStateException("carried on is not as defined, linkage " + kind);
                }
                links.put(key(made.number, other.number), carried);
            }
            free.put(made.number, made);
            grown.steps.add(made);
        }

        Fraction carried(Cluster made, Cluster other) {
            Fraction x = link(made.one.number, other.number);
            Fraction y = link(made.other.number, other.number);
            Fraction z = made.height;
            int c = made.one.points.size();
            int d = made.other.points.size();
            int e = other.points.size();
            switch (kind) {
                case 0:
                    return x.compareTo(y) <= 0 ? x : y;
                case 1:
                    return x.compareTo(y) >= 0 ? x : y;
                case 2:
                    return x.times(c, c + d).plus(y.times(d, c + d));
                case 3:
                    return x.times(c + e, 1).plus(y.times(d + e, 1)).plus(z.times(-e, 1)).times(1, c + d + e);
                default:
                    return x.plus(y).times(1, 2);
            }
        }

        void greedily() {
            while (free.size() > 1) {
                List<int[]> least = new ArrayList<>();
                for (int first : free.keySet()) {
                    for (int second : free.tailMap(first, false).keySet()) {
                        int compared = least.isEmpty() ? 0
                                : link(first, second).compareTo(link(least.get(0)[0], least.get(0)[1]));
                        if (compared < 0) {
                            least.clear();
                        }
                        if (compared <= 0) {
                            least.add(new int[] {first, second});
                        }
                    }
                }
                grown.ties += least.size() > 1 ? 1 : 0;
                join(least.get(0)[0], least.get(0)[1]);
            }
        }

        void alongChains() {
            List<Integer> stack = new ArrayList<>();
            while (free.size() > 1) {
                if (stack.isEmpty()) {
                    stack.add(free.firstKey());
                }
                int topmost = stack.get(stack.size() - 1);
                int below = stack.size() > 1 ? stack.get(stack.size() - 2) : -1;
                List<Integer> least = new ArrayList<>();
                for (int other : free.keySet()) {
                    if (other != topmost) {
                        int compared = least.isEmpty() ? 0
                                : link(topmost, other).compareTo(link(topmost, least.get(0)));
                        if (compared < 0) {
                            least.clear();
                        }
                        if (compared <= 0) {
                            least.add(other);
                        }
                    }
                }
                grown.ties += least.size() > 1 ? 1 : 0;
                if (least.contains(below)) {
                    stack.remove(stack.size() - 1);
                    stack.remove(stack.size() - 1);
                    join(below, topmost);
                } else {
                    stack.add(least.get(0));
                }
            }
            grown.steps.sort((one, other) -> one.height.compareTo(other.height));
            for (int k = 0; k < grown.steps.size(); k++) {
                grown.steps.get(k).number = n + k;
            }
        }

        Grown done() {
            Cluster last = n == 0 ? null : grown.steps.isEmpty() ? free.get(0) : grown.steps.get(n - 2);
            grown.text = (last == null ? "" : told(last)) + ";";
            // A number that stands behind a bracket or a comma is a point's, one behind : or / a HEIGHT's.
            Matcher point = Pattern.compile("(?:^|[(,])([0-9]+)").matcher(grown.text);
            while (point.find()) {
                grown.order.add(Integer.parseInt(point.group(1)));
            }
            return grown;
        }

        String told(Cluster cluster) {
            if (cluster.height == null) {
                return "" + cluster.number;
            }
            boolean inOrder = cluster.one.points.first() < cluster.other.points.first();
            Cluster lead = inOrder ? cluster.one : cluster.other;
            Cluster trail = inOrder ? cluster.other : cluster.one;
            return "(" + told(lead) + "," + told(trail) + "):" + cluster.height.told();
        }
    }

    int grow(int slot, int kind, boolean chained) {
        if (slot < 0 || slot > 3 || kind < 0 || kind > 4) {
            return -1;
        }
        Growing growing = new Growing(kind, chained);
        if (chained) {
            growing.alongChains();
        } else {
            growing.greedily();
        }
        slots[slot] = growing.done();
        return slots[slot].steps.size();
    }

    private Grown at(int slot) {
        return slot < 0 || slot > 3 ? null : slots[slot];
    }

    private Cluster stepAt(int slot, int k) {
        return at(slot) == null || k < 0 || k >= at(slot).steps.size() ? null : at(slot).steps.get(k);
    }

    int tree(int slot, int what) {
        Grown t = at(slot);
        if (t == null || what < 0 || what > 4) {
            return -1;
        }
        return new int[] {t.steps.size(), t.ties, t.n, t.kind, t.chained ? 1 : 0}[what];
    }

    int step(int slot, int k, int what) {
        Cluster s = stepAt(slot, k);
        if (s == null || what < 0 || what > 3) {
            return -1;
        }
        int bits = 0;
        for (int i : s.points) {
            bits |= 1 << i;
        }
        int one = s.one.number;
        int other = s.other.number;
        return new int[] {Math.min(one, other), Math.max(one, other), s.points.size(), bits}[what];
    }

    long height(int slot, int k, int what) {
        Cluster s = stepAt(slot, k);
        return s == null || what < 0 || what > 1 ? -1 : s.height.part(what);
    }

    int joins(int slot, int i, int j) {
        Grown t = at(slot);
        if (t == null || i == j || i < 0 || j < 0 || i >= t.n || j >= t.n) {
            return -1;
        }
        int k = 0;
        while (!t.steps.get(k).points.contains(i) || !t.steps.get(k).points.contains(j)) {
            k++;
        }
        return k;
    }

    boolean same(int s, int t) {
        if (at(s) == null || at(t) == null || at(s).n != at(t).n) {
            return false;
        }
        for (int k = 0; k < at(s).steps.size(); k++) {
            for (int what = 0; what <= 1; what++) {
                if (step(s, k, what) != step(t, k, what) || height(s, k, what) != height(t, k, what)) {
                    return false;
                }
            }
        }
        return true;
    }

    int text(int slot) {
        if (at(slot) == null) {
            return -1;
        }
        out = at(slot).text;
        return out.length();
    }

    int order(int slot, int k) {
        return at(slot) == null || k < 0 || k >= at(slot).order.size() ? -1 : at(slot).order.get(k);
    }

    int cut(int slot, int k) {
        Grown t = at(slot);
        if (t == null || (t.n == 0 ? k != 0 : k < 1 || k > t.n)) {
            return -1;
        }
        return cutTo(t, t.n == 0 ? t.steps : t.steps.subList(0, t.steps.size() - (k - 1)));
    }

    int cutAt(int slot, int top, int bottom) {
        Grown t = at(slot);
        if (t == null || top < 0 || top > 1000000000 || bottom < 1 || bottom > 1000) {
            return -1;
        }
        List<Cluster> low = new ArrayList<>();
        for (Cluster s : t.steps) {
            if (s.height.compareTo(Fraction.of(top, bottom)) <= 0) {
                low.add(s);
            }
        }
        return cutTo(t, low);
    }

    private int cutTo(Grown t, List<Cluster> joined) {
        int[] least = new int[t.n];
        for (int i = 0; i < t.n; i++) {
            least[i] = i;
        }
        for (Cluster s : joined) {
            for (int i : s.points) {
                least[i] = s.points.first();
            }
        }
        TreeSet<Integer> leasts = new TreeSet<>();
        for (int l : least) {
            leasts.add(l);
        }
        for (int i = 0; i < t.n; i++) {
            t.labels[i] = leasts.headSet(least[i]).size();
        }
        return leasts.size();
    }

    int label(int slot, int i) {
        return at(slot) == null || i < 0 || i >= at(slot).n ? -1 : at(slot).labels[i];
    }

    int agree(int s, int t) {
        if (at(s) == null || at(t) == null || at(s).n != at(t).n) {
            return -1;
        }
        int alike = 0;
        for (int i = 0; i < at(s).n; i++) {
            for (int j = i + 1; j < at(s).n; j++) {
                boolean both = label(s, i) == label(s, j) && label(t, i) == label(t, j);
                boolean neither = label(s, i) != label(s, j) && label(t, i) != label(t, j);
                alike += both || neither ? 1 : 0;
            }
        }
        return alike;
    }

    int middle(int slot, int i) {
        Grown t = at(slot);
        if (t == null || i < 0 || i >= t.n || t.n != n) {
            return -1;
        }
        TreeMap<Integer, Integer> bySum = new TreeMap<>();
        for (int m = 0; m < n; m++) {
            int sum = 0;
            for (int j = 0; j < n; j++) {
                sum += t.labels[j] == t.labels[i] ? apart[m][j] : 0;
            }
            if (t.labels[m] == t.labels[i]) {
                bySum.putIfAbsent(sum, m);
            }
        }
        return bySum.firstEntry().getValue();
    }
}
