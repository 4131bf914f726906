import java.math.BigInteger;

/** Promises 27 to 29: each sentence of the document that names an edge has a part of its own. */
final class EdgesKingsDaysTest {
    private static final int UNKNOWN = Edges.UNKNOWN, OUTSIDE = Edges.OUTSIDE, STATE = Edges.STATE;
    private static final BigInteger WRAP = BigInteger.ONE.shiftLeft(64);
    private static final BigInteger FACTOR = new BigInteger("6364136223846793005");
    private static final BigInteger MORE = new BigInteger("1442695040888963407");
    private static final long[] SEEDS = {0, 1, -1, 2, 77, Long.MAX_VALUE, Long.MIN_VALUE, Long.MAX_VALUE - 1,
        Long.MIN_VALUE + 1, 1L << 32, 1L << 33, -1L << 33, 0xffffffffL};

    private EdgesKingsDaysTest() {
    }

    public static void main(String[] args) {
        kingsArguments();
        kingsPairs();
        kingsOfNoDitches();
        kingsByTurns();
        kingsMoves();
        seed();
        daysArguments();
        daysOfNoPlaces();
        daysWrapTheSeed();
        daysByUpperBits();
        daysOfOneHour();
        daysOfDams();
        daysOfWetTowns();
        daysOf99();
        daysChangeNothingElse();
        Check.end("EdgesKingsDaysTest");
    }

    private static void kings(String what, Story story, int place, int n, int left, int move) {
        story.stays("27 " + what + ": left", left, x -> x.kings(place, n, false));
        story.stays("27 " + what + ": move", move, x -> x.kings(place, n, true));
    }

    // Promise 27: n turns (1 to 4); UNKNOWN; OUTSIDE: n; STATE: it is no stable.
    private static void kingsArguments() {
        Story busy = Story.busy();
        for (int place : Edges.unknown(6)) {
            kings("place " + place, busy, place, 1, UNKNOWN, UNKNOWN);
            kings("place " + place, busy, place, 4, UNKNOWN, UNKNOWN);
        }
        for (int n : Edges.beyond(1, 4)) {
            kings("n " + n, busy, 1, n, OUTSIDE, OUTSIDE);
            kings("n " + n, busy, 5, n, OUTSIDE, OUTSIDE);
        }
        for (int place : new int[] {0, 2, 3, 4}) {
            kings("no stable: " + place, busy, place, 1, STATE, STATE);
            kings("no stable: " + place, busy, place, 4, STATE, STATE);
        }
        for (int n = 1; n <= 4; n++) {
            kings("clean", busy, 1, n, 0, 0);
            kings("clean", busy, 5, n, 0, 0);
        }
        kings("no places", Story.begin(), 0, 1, UNKNOWN, UNKNOWN);
        kings("the first that is not", Story.land("RS1"), 1, 1, UNKNOWN, UNKNOWN);
        kings("the last place", Story.land("RTTTTTS9"), 5, 4, 9, 0);
    }

    // Promise 27: of several the first that it names.
    private static void kingsPairs() {
        Story busy = Story.busy();
        for (int n : Edges.beyond(1, 4)) {
            for (int place : Edges.unknown(6)) {
                kings("UNKNOWN ahead of OUTSIDE", busy, place, n, UNKNOWN, UNKNOWN);
            }
            for (int place : new int[] {0, 2, 3, 4}) {
                kings("OUTSIDE ahead of STATE", busy, place, n, OUTSIDE, OUTSIDE);
            }
        }
    }

    // Each turns one ditch, or none: without ditches it is none.
    private static void kingsOfNoDitches() {
        for (int n = 1; n <= 4; n++) {
            kings("no ditches", Story.land("RD99S9"), 1, n, 9, 0);
            kings("no dung", Story.land("RD99S0C010"), 1, n, 0, 0);
            kings("a ditch of no matter", Story.land("RD99S9TC020"), 1, n, 9, 0);
        }
    }

    // The first one begins; then AN HOUR goes by, also behind the last turn.
    private static void kingsByTurns() {
        Story shut = Story.land("RD92S9C010");
        kings("shut, 1: he digs", shut, 1, 1, 7, 1);
        kings("shut, 2: the other one dams it up", shut, 1, 2, 7, 1);
        kings("shut, 3: he digs again", shut, 1, 3, 5, 1);
        kings("shut, 4: and so on", shut, 1, 4, 5, 1);
        Story open = Story.land("RD92S9C011");
        kings("open, 1: he lets it be", open, 1, 1, 7, 0);
        kings("open, 2: the other one dams it up", open, 1, 2, 7, 0);
        kings("open, 3: he digs again", open, 1, 3, 5, 0);
        kings("open, 4: and it is dammed up", open, 1, 4, 5, 0);
        // Two ditches into the stable: the other one can but stop one of them.
        Story two = Story.land("RD91D91S9C021C121");
        kings("two, 1", two, 2, 1, 7, 0);
        kings("two, 2", two, 2, 2, 6, 0);
        kings("two, 3", two, 2, 3, 4, 0);
        kings("two, 4", two, 2, 4, 3, 0);
        // No less than none is left.
        kings("a dung of 1", Story.land("RD99S1C011"), 1, 4, 0, 0);
    }

    // What the first one does: 0 none, 1 and the ditch; of like ones the least.
    private static void kingsMoves() {
        Story last = Story.land("RS0S0S0D91S9C010C020C100C120C200C340");
        kings("ditch 5", last, 4, 1, 8, 6);
        kings("ditch 5 again", last, 4, 3, 7, 6);
        Story like = Story.land("RD91D91D91S9C030C130C230");
        kings("of three the least", like, 3, 1, 8, 1);
        kings("of two the least", like.then(x -> x.turn(0)), 3, 1, 7, 2);
        kings("all are open: none", like.then(x -> x.turn(0), x -> x.turn(1), x -> x.turn(2)), 3, 1, 6, 0);
        kings("the richer one", Story.land("RD91D92S9C020C120"), 2, 1, 7, 2);
        // To dam up can be the best: a lesser ditch led the water away.
        kings("dams up ditch 0", Story.land("RD91TS9C011C021"), 2, 1, 8, 1);
        // Wet towns are no matter to kings.
        kings("a wet town", Story.land("RD91TS9C011C021").then(x -> x.hour()), 2, 1, 8, 1);
    }

    // Promise 28: the seed is v, any long: what it was; 0 at first.
    private static void seed() {
        Story story = Story.busy();
        long was = 77;
        for (long v : SEEDS) {
            story.due("28 what it was", was, x -> x.seed(v));
            story = story.then(x -> x.seed(v));
            was = v;
        }
        Story.begin().due("28 at first", 0, x -> x.seed(Long.MIN_VALUE));
        Story.busy().then(x -> x.seed(Long.MIN_VALUE), x -> x.seed(77)).like("28 nothing but the seed", Story.busy());
    }

    private static long step(long seed) {
        return BigInteger.valueOf(seed).multiply(FACTOR).add(MORE).longValue();
    }

    /** The seed that becomes x. */
    private static long ahead(long x) {
        return BigInteger.valueOf(x).subtract(MORE).multiply(FACTOR.modInverse(WRAP)).longValue();
    }

    // Promise 29: m hours (1 to 40); OUTSIDE: m.
    private static void daysArguments() {
        for (Story story : new Story[] {Story.begin().then(x -> x.seed(5)), Story.busy(), Story.land("RD91S9C011")}) {
            for (int m : Edges.beyond(1, 40)) {
                story.stays("29 days(" + m + ")", OUTSIDE, x -> x.days(m));
            }
            for (int m : new int[] {1, 2, 39, 40}) {
                Check.isTrue("29 takes " + m, story.made().days(m) >= 0);
            }
        }
    }

    // 0, if there are no places: then there is no place that could be told, and the seed stays.
    private static void daysOfNoPlaces() {
        for (long v : SEEDS) {
            Story story = Story.begin().then(x -> x.seed(v));
            story.stays("29 no places, 1", 0, x -> x.days(1));
            story.stays("29 no places, 40", 0, x -> x.days(40));
        }
        Story bare = Story.busy().then(x -> x.wipe()).writes("R").then(x -> x.land());
        bare.stays("29 no places any more", 0, x -> x.days(40));
    }

    // x becomes x times the one and the other (64 bits, wrapping), ahead of each hour.
    private static void daysWrapTheSeed() {
        for (long v : SEEDS) {
            long x = v;
            for (int m = 1; m <= 40; m++) {
                x = step(x);
                int days = m;
                Story.land("RD91S9C011").then(y -> y.seed(v), y -> y.days(days)).due("29 " + m + " steps from " + v, x, y -> y.seed(0));
            }
            Story.land("RT").then(y -> y.seed(v), y -> y.days(1)).due("29 no dam: the seed steps too", step(v), y -> y.seed(0));
            Story one = Story.land("RT").then(y -> y.seed(v), y -> y.days(39), y -> y.days(1));
            one.due("29 39 and 1", x, y -> y.seed(0));
            Check.due("29 the step back", step(ahead(v)), v);
        }
        // What is 0, and what wraps to it.
        Story.land("RT").then(y -> y.seed(ahead(0)), y -> y.days(1)).due("29 to 0", 0, y -> y.seed(0));
        Story.land("RT").then(y -> y.seed(ahead(-1)), y -> y.days(1)).due("29 to -1", -1, y -> y.seed(0));
    }

    /** A land of so many places, of which that one is the only dam: one bucket there washes one dung in the next hour. */
    private static Story oneDam(int places, int dam) {
        StringBuilder text = new StringBuilder("R");
        for (int p = 0; p < places; p++) {
            text.append(p == dam ? "D01" : "S1");
        }
        text.append("C").append(dam).append((dam + 1) % places).append("1");
        return Story.land(text.toString());
    }

    // Its upper 31 bits by how many places there are, what is left tells one.
    private static void daysByUpperBits() {
        long[] becomes = {0, -1, 1, Long.MAX_VALUE, Long.MIN_VALUE, (1L << 33) - 1, 1L << 33, (1L << 33) + 1, 1L << 34,
            -1L << 33, (-1L << 33) - 1, 1L << 62, -1L << 62, 5L << 33, 6L << 33, 7L << 33, (7L << 33) - 1, 1L << 32};
        for (long x : becomes) {
            BigInteger upper = BigInteger.valueOf(x).mod(WRAP).shiftRight(33);
            for (int places = 2; places <= 6; places++) {
                int told = upper.mod(BigInteger.valueOf(places)).intValue();
                for (int dam = 0; dam < places; dam++) {
                    int want = places - 1 - (dam == told ? 1 : 0);
                    oneDam(places, dam).then(y -> y.seed(ahead(x))).due("29 x " + x + ", dam " + dam + " of " + places,
                            want, y -> y.days(1));
                }
            }
        }
        // By one place what is left is 0.
        Story.land("RS9").then(y -> y.seed(ahead(-1))).due("29 of one place", 9, y -> y.days(40));
    }

    // One hour: the bucket comes ahead of it, and goes in it.
    private static void daysOfOneHour() {
        Story told = Story.land("RD01S9C011").then(x -> x.seed(ahead(0)));
        told.due("29 it rains, then it goes", 8, x -> x.days(1));
        told.then(x -> x.days(1)).due("29 no rain is left", 0, x -> x.place(0, 1));
        Story.land("RD01S9C010").then(x -> x.seed(ahead(0))).due("29 ditches as they are", 9, x -> x.days(1));
        Story.land("RD99S9C011").then(x -> x.seed(ahead(1L << 33))).due("29 no rain, an hour", 0, x -> x.days(1));
        // A stable or a town that is told has no bucket more: the stable's would come to the town.
        Story.land("RS0TC011").then(x -> x.seed(ahead(0))).due("29 no rain at a stable", 0, x -> x.days(1));
        Story.land("RTS0C101").then(x -> x.seed(ahead(0))).due("29 no rain in a town", 0, x -> x.days(40));
    }

    // 40 hours, told a second time, with a dam among several.
    private static void daysOfDams() {
        for (long v : SEEDS) {
            for (int m : new int[] {1, 2, 39, 40}) {
                Oracle oracle = new Oracle();
                for (char letter : "RD01S9D01S9TC011C231".toCharArray()) {
                    oracle.write(letter);
                }
                oracle.land();
                oracle.seed(v);
                Story.land("RD01S9D01S9TC011C231").then(x -> x.seed(v)).due("29 days(" + m + ") from " + v,
                        oracle.days(m), x -> x.days(m));
            }
        }
    }

    // All dung then, and 100 times how many towns are wet.
    private static void daysOfWetTowns() {
        Story.land("RS9S9S9S9S9S9").due("29 all dung", 54, x -> x.days(40));
        Story.land("RS0T").due("29 none", 0, x -> x.days(40));
        Story.land("RD99D99D99TTTC031C141C251").due("29 three towns", 300, x -> x.days(1));
        Story five = Story.land("RD91TTTTTC011C021C031C041C051");
        for (int ditch = 0; ditch < 5; ditch++) {
            int d = ditch;
            five = five.then(x -> x.hour(), x -> x.turn(d));
        }
        five.due("29 five that are wet now", 500, x -> x.days(40));
        five.then(x -> x.undo(), x -> x.undo()).due("29 the fifth then", 500, x -> x.days(1));
        Story.land("RD91S9TC020").then(x -> x.turn(0), x -> x.hour(), x -> x.turn(0)).due("29 both", 109, x -> x.days(1));
    }

    // 99 at most: a dam that has them takes no more, and nothing of it is lost.
    private static void daysOf99() {
        Story full = Story.land("RD99").times(10, x -> x.rain(0, 9));
        full.due("29 99, forty times", 0, x -> x.days(40));
        full.then(x -> x.days(40)).due("29 still 99", 99, x -> x.place(0, 1));
        Story town = Story.land("RD99TS9C011").times(10, x -> x.rain(0, 9));
        town.due("29 99, and they go", 109, x -> x.days(40));
        // By a ditch a dam has more than 99; days do not take it away.
        Story more = Story.land("RD11D99C011").times(10, x -> x.rain(1, 9)).then(x -> x.hour());
        more.then(x -> x.days(40)).due("29 100 by a ditch", 100, x -> x.place(1, 1));
    }

    // Nothing changes but the seed.
    private static void daysChangeNothingElse() {
        for (int m : new int[] {1, 40}) {
            Story.busy().then(x -> x.days(m), x -> x.seed(77)).like("29 days(" + m + ")", Story.busy());
        }
        Story.busy().due("29 a town that was wet", 100, x -> x.days(40));
    }
}
