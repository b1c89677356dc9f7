import java.util.List;
import java.util.Map;
import java.util.function.Consumer;
import java.util.function.Predicate;
import java.util.function.ToLongFunction;

/** A sentence of the document that names a boundary: what is asked on both sides of it is told with its words. */
final class Sentence {
    /** A call with one of several numbers. */
    interface Asked {
        long with(Desk x, int number);
    }

    /** Likewise, of a call that answers true or false. */
    interface AskedWhether {
        boolean with(Desk x, int number);
    }

    private static final int[] SLOTS_WITHOUT_TREE = {3, -1, 4, Integer.MIN_VALUE, Integer.MAX_VALUE};
    private static final Map<String, String> RICH = View.of(Sentence::rich);

    private final Check check;
    private final String named;

    Sentence(Check check, String named) {
        this.check = check;
        this.named = named;
    }

    /** A desk on which all that can be changed has been: points, PLACES, a FAULT, trees and CUTS, OUT and the TAPE. */
    static void rich(Desk x) {
        x.readText("2 1x");
        x.readText("1 ?");
        x.points(4);
        x.place(0, 10, -20);
        x.place(1, -30, 40);
        x.place(2, 50, 60);
        x.place(3, -70, -80);
        int[] apart = {5, 90, 91, 92, 93, 2};
        int next = 0;
        for (int i = 1; i < 4; i++) {
            for (int j = 0; j < i; j++) {
                x.put(i, j, apart[next]);
                next++;
            }
        }
        x.greedy(0, 2);
        x.cut(0, 2);
        x.chain(1, 3);
        x.cut(1, 3);
        x.greedy(2, 4);
        x.put(0, 1, 7);
        x.text(0);
        x.tape("3 1 2 3");
    }

    static Desk richDesk() {
        return View.behind(Sentence::rich);
    }

    void due(String call, long got, long want) {
        check.due(named + call, got, want);
    }

    void due(String call, boolean got, boolean want) {
        check.due(named + call, got, want);
    }

    void due(String call, String got, String want) {
        check.due(named + call, got, want);
    }

    /** On the rich desk the call answers NONE, and nothing that a later call shows is another. */
    void refused(String call, ToLongFunction<Desk> asked) {
        due(call, asked.applyAsLong(richDesk()), -1);
        changesOnly("the refused " + call, asked::applyAsLong);
    }

    /** Likewise of a call that answers false. */
    void refusedAsFalse(String call, Predicate<Desk> asked) {
        due(call, asked.test(richDesk()), false);
        changesOnly("the refused " + call, asked::test);
    }

    /** The call is refused with each of these numbers; its name has a % in their place. */
    void refusedEach(String call, Asked asked, int... numbers) {
        for (int number : numbers) {
            refused(call.replace("%", "" + number), x -> asked.with(x, number));
        }
    }

    void refusedEachAsFalse(String call, AskedWhether asked, int... numbers) {
        for (int number : numbers) {
            refusedAsFalse(call.replace("%", "" + number), x -> asked.with(x, number));
        }
    }

    /** The call is refused with SLOT 3, which has no tree on the rich desk, and with what is no SLOT. */
    void refusedWithoutTree(String call, Asked asked) {
        refusedEach(call, asked, SLOTS_WITHOUT_TREE);
    }

    /** On a desk behind a story of its own the call answers NONE, and changes nothing. */
    void refusedBehind(Consumer<Desk> story, String call, ToLongFunction<Desk> asked) {
        due(call, asked.applyAsLong(View.behind(story)), -1);
        stays("the refused " + call, View.of(story), View.of(story.andThen(asked::applyAsLong)), List.of());
    }

    /** On the rich desk the call changes nothing but these parts of the view. */
    void changesOnly(String call, Consumer<Desk> done, String... parts) {
        Consumer<Desk> story = Sentence::rich;
        stays(call, RICH, View.of(story.andThen(done)), List.of(parts));
    }

    private void stays(String call, Map<String, String> was, Map<String, String> is, List<String> but) {
        for (String part : was.keySet()) {
            if (!but.contains(part)) {
                due(part + " behind " + call, is.get(part), was.get(part));
            }
        }
    }
}
