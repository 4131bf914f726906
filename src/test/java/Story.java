import java.util.ArrayList;
import java.util.Arrays;
import java.util.Collections;
import java.util.List;

/**
 * A row of calls by which an object is made, so that it can be made again, just alike: what a call has
 * changed is seen by holding the object beside another one on which it was never called.
 */
final class Story {
    /** Behind so many calls the document promises nothing, so no test may ask more of one object. */
    static final int MOST_CALLS = 512;
    /** A land with as many places and ditches as there can be. */
    static final String FULL_LAND = "RD73S5M4TD91S2C011C121C130C451C521C050";

    interface Call {
        long on(StableRivers x);
    }

    private final List<Call> calls;

    private Story(List<Call> calls) {
        this.calls = calls;
    }

    /**
     * Six places, six ditches; 15 acts, of which the first one is forgotten; two slots kept, 6 seen, a
     * seed, a wet town: whatever a refused call might change would be shown.
     */
    static Story busy() {
        return land(FULL_LAND)
                .then(x -> x.hour(), x -> x.keep(0), x -> x.turn(2), x -> x.rain(0, 9), x -> x.hour())
                .then(x -> x.turn(1), x -> x.hour(), x -> x.rain(4, 1), x -> x.hour(), x -> x.turn(5))
                .then(x -> x.turn(1), x -> x.hour(), x -> x.keep(1), x -> x.rain(0, 1), x -> x.turn(3))
                .then(x -> x.turn(3), x -> x.rain(0, 2), x -> x.hour())
                .then(x -> x.see(0, 0, 1), x -> x.see(1, 1, 1), x -> x.see(2, 0, 14), x -> x.see(3, 12, 6))
                .then(x -> x.see(4, 1, 3), x -> x.see(5, 1, 2), x -> x.seed(77));
    }

    /** A new object. */
    static Story begin() {
        return new Story(List.of());
    }

    /** The text is written, letter by letter; it is not the land yet. */
    static Story text(String letters) {
        return begin().writes(letters);
    }

    /** The text is written and is the land. */
    static Story land(String letters) {
        return text(letters).then(x -> x.land());
    }

    Story writes(String letters) {
        Story story = this;
        for (char letter : letters.toCharArray()) {
            story = story.then(x -> x.write(letter));
        }
        return story;
    }

    Story then(Call... more) {
        List<Call> all = new ArrayList<>(calls);
        all.addAll(Arrays.asList(more));
        return new Story(all);
    }

    Story times(int n, Call call) {
        return then(Collections.nCopies(n, call).toArray(new Call[0]));
    }

    /** An object that has gone through all calls of the story. */
    StableRivers made() {
        StableRivers x = new StableRivers();
        for (Call call : calls) {
            call.on(x);
        }
        return x;
    }

    /** Behind the story the call answers so. */
    void due(String what, long want, Call call) {
        Check.isTrue(what + ": within the calls of one object", calls.size() < MOST_CALLS);
        Check.due(what, call.on(made()), want);
    }

    /** Behind the story the call answers so and has changed nothing that a later call can show. */
    void stays(String what, long want, Call call) {
        StableRivers x = made();
        Check.due(what, call.on(x), want);
        same(what + ": changes nothing", calls.size() + 1, x, this);
    }

    /** Behind both stories an object shows the same. */
    void like(String what, Story other) {
        same(what, calls.size(), made(), other);
    }

    /** Behind both stories an object does not show the same: a probe that can't see would tell nothing. */
    void unlike(String what, Story other) {
        Check.isTrue(what, !new Probe(made()).shown().equals(new Probe(other.made()).shown()));
    }

    private static void same(String what, int calls, StableRivers x, Story other) {
        Probe one = new Probe(x);
        Probe two = new Probe(other.made());
        Check.isTrue(what, one.shown().equals(two.shown()));
        Check.isTrue(what + ": within the calls of one object",
                Math.max(calls, other.calls.size()) + Math.max(one.calls(), two.calls()) <= MOST_CALLS);
    }
}
