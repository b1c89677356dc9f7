import java.util.LinkedHashMap;
import java.util.Map;
import java.util.function.Consumer;

/**
 * All that later calls can show of a desk behind a story, a row of calls. Every look takes a new desk through the
 * story, so that no look changes what another one sees and no desk has too many calls.
 */
final class View {
    static final String DISTANCES = "distances";
    static final String PLACES = "places";
    static final String TAPE = "tape";
    static final String OUT = "out";
    static final String FAULT = "fault";

    private View() {
    }

    static String tree(int slot) {
        return "tree " + slot;
    }

    static String labels(int slot) {
        return "labels " + slot;
    }

    static Desk behind(Consumer<Desk> story) {
        Desk x = new Desk();
        story.accept(x);
        return x;
    }

    static Map<String, String> of(Consumer<Desk> story) {
        Map<String, String> seen = new LinkedHashMap<>();
        seen.put(DISTANCES, distances(behind(story)));
        seen.put(PLACES, places(story));
        seen.put(TAPE, tape(story));
        seen.put(OUT, out(story));
        seen.put(FAULT, "" + behind(story).fault());
        for (int slot = 0; slot < 4; slot++) {
            Desk x = behind(story);
            seen.put(tree(slot), x.facts(slot) + ": " + x.steps(slot));
            seen.put(labels(slot), behind(story).labels(slot));
        }
        return seen;
    }

    private static int count(Desk x) {
        int n = 0;
        while (x.distance(n, n) != DendroDesk.NONE) {
            n++;
        }
        return n;
    }

    /** How many points there are, and their DISTANCES. */
    static String distances(Desk x) {
        int n = count(x);
        StringBuilder text = new StringBuilder("" + n);
        for (int i = 1; i < n; i++) {
            for (int j = 0; j < i; j++) {
                text.append(' ').append(x.distance(i, j));
            }
        }
        return text.toString();
    }

    /** The PLACES: x + y and x - y of a point are what lies between it and two corners, where another point is put. */
    private static String places(Consumer<Desk> story) {
        int n = count(behind(story));
        StringBuilder text = new StringBuilder();
        for (int i = 0; i < n && n > 1; i++) {
            int other = i == 0 ? 1 : 0;
            int sum = fromCorner(behind(story), i, other, -500) - 1000;
            int difference = fromCorner(behind(story), i, other, 500) - 1000;
            text.append((sum + difference) / 2).append(',').append((sum - difference) / 2).append(' ');
        }
        return text.toString();
    }

    private static int fromCorner(Desk x, int i, int other, int y) {
        x.place(other, -500, y);
        x.measure(1);
        return x.distance(i, other);
    }

    private static String tape(Consumer<Desk> story) {
        Desk x = behind(story);
        String read = x.read() + " " + x.fault() + " " + distances(x);
        return tapeLength(story) + " bytes, read as " + read;
    }

    static int tapeLength(Consumer<Desk> story) {
        int fed = behind(story).feed(0, 0, 0, 0, 0);
        if (fed != DendroDesk.NONE) {
            return fed - 20;
        }
        int length = 2400;
        while (length > 2380 && behind(story).end(length) == DendroDesk.NONE) {
            length--;
        }
        return length;
    }

    /** All bytes of OUT, however many. */
    static String out(Consumer<Desk> story) {
        StringBuilder text = new StringBuilder();
        Desk x = behind(story);
        for (int b = x.out(0); b != DendroDesk.NONE && text.length() <= 2400; b = x.out(text.length())) {
            text.append((char) b);
            if (x.calls() == Desk.MOST_CALLS) {
                x = behind(story);
            }
        }
        return text.toString();
    }
}
