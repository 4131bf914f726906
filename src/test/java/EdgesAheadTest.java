/** Promises 13 to 20: each sentence of the document that names an edge has a part of its own. */
final class EdgesAheadTest {
    private static final int UNKNOWN = Edges.UNKNOWN, OUTSIDE = Edges.OUTSIDE, NONE = Edges.NONE;
    /** No figure is more than 12, so that each hour up to 12 is unlike the one ahead of it. */
    private static final String SLOW = "RD91S9C011";
    /** No turning washes the stable. */
    private static final String NEVER = "RS1TD91C211";

    private EdgesAheadTest() {
    }

    public static void main(String[] args) {
        behindArguments();
        behindHours();
        behindChangesNothing();
        byArguments();
        byTurnings();
        byHours();
        byWetTowns();
        byWorth();
        hoursOf("15 once, bits", (x, h) -> x.once(h, false));
        hoursOf("15 once, many", (x, h) -> x.once(h, true));
        hoursOf("17 richest", (x, h) -> x.richest(h));
        hoursOf("18 barred", (x, h) -> x.barred(h));
        onceNone();
        onceLikeOnes();
        twiceArguments();
        twiceEdges();
        twiceNone();
        richestNone();
        richestLikeOnes();
        barredNone();
        barredFirst();
        freeArguments();
        freeEdges();
        stuckArguments();
        stuckEdges();
        Check.end("EdgesAheadTest");
    }

    private interface OfHours {
        int ask(StableRivers x, int h);
    }

    /** A call whose one number is h: 0 and 12 are taken, the first ones beyond are OUTSIDE, also where it can not be. */
    private static void hoursOf(String what, OfHours call) {
        for (Story story : new Story[] {Story.begin(), Story.busy(), Story.land(NEVER), Story.land(SLOW)}) {
            for (int h : Edges.beyond(0, 12)) {
                story.stays(what + " " + h, OUTSIDE, x -> call.ask(x, h));
            }
            for (int h : new int[] {0, 12}) {
                Check.isTrue(what + " takes " + h, call.ask(story.made(), h) != OUTSIDE);
            }
        }
        for (int h = 0; h <= 12; h++) {
            int hours = h;
            Story.busy().stays(what + ", nothing changes by " + h, call.ask(Story.busy().made(), h), x -> call.ask(x, hours));
        }
    }

    // Promise 13: UNKNOWN; OUTSIDE: h (0 to 12), what.
    private static void behindArguments() {
        Story busy = Story.busy();
        for (int place : Edges.unknown(6)) {
            busy.stays("13 place " + place, UNKNOWN, x -> x.behind(place, 0, 0));
            for (int bad : Edges.beyond(0, 12)) {
                busy.stays("13 UNKNOWN ahead of h", UNKNOWN, x -> x.behind(place, bad, 0));
                busy.stays("13 UNKNOWN ahead of what", UNKNOWN, x -> x.behind(place, 0, bad));
                busy.stays("13 UNKNOWN ahead of both", UNKNOWN, x -> x.behind(place, bad, bad));
            }
        }
        for (int h : Edges.beyond(0, 12)) {
            busy.stays("13 h " + h, OUTSIDE, x -> x.behind(0, h, 0));
            busy.stays("13 h " + h, OUTSIDE, x -> x.behind(5, h, 1));
            busy.stays("13 h and what " + h, OUTSIDE, x -> x.behind(5, h, 2));
        }
        for (int what : Edges.beyond(0, 1)) {
            busy.stays("13 what " + what, OUTSIDE, x -> x.behind(0, 0, what));
            busy.stays("13 what " + what, OUTSIDE, x -> x.behind(5, 12, what));
        }
        Story.begin().stays("13 no places", UNKNOWN, x -> x.behind(0, 0, 0));
        Story.land("RT").stays("13 one place", UNKNOWN, x -> x.behind(1, 0, 0));
    }

    // Promise 13: behind h hours, from 0 (as it is) to 12.
    private static void behindHours() {
        Story slow = Story.land(SLOW).then(x -> x.rain(0, 9));
        for (int h = 0; h <= 12; h++) {
            int hours = h;
            slow.stays("13 dam behind " + h, 18 - h, x -> x.behind(0, hours, 0));
            slow.stays("13 stable behind " + h, h, x -> x.behind(1, hours, 0));
            slow.stays("13 dung behind " + h, Math.max(0, 9 - h), x -> x.behind(1, hours, 1));
            slow.stays("13 no dung at a dam", 0, x -> x.behind(0, hours, 1));
        }
        slow.then(x -> x.turn(0)).stays("13 ditches as they are", 9, x -> x.behind(1, 12, 1));
    }

    private static void behindChangesNothing() {
        for (int place = 0; place < 6; place++) {
            int p = place;
            Story.busy().stays("13 as it is", Story.busy().made().place(place, 1), x -> x.behind(p, 0, 0));
            Story.busy().stays("13 as it is", Story.busy().made().place(place, 2), x -> x.behind(p, 0, 1));
        }
        Story.busy().stays("13 behind 12", 23, x -> x.behind(2, 12, 0));
    }

    // Promise 14: OUTSIDE: turning (bits of ditches that there are), h, what.
    private static void byArguments() {
        Story busy = Story.busy();
        for (int turning : Edges.beyond(0, 63)) {
            busy.stays("14 turning " + turning, OUTSIDE, x -> x.by(turning, 0, 0));
            busy.stays("14 all three", OUTSIDE, x -> x.by(turning, 13, 4));
        }
        for (int h : Edges.beyond(0, 12)) {
            busy.stays("14 h " + h, OUTSIDE, x -> x.by(63, h, 0));
        }
        for (int what : Edges.beyond(0, 3)) {
            busy.stays("14 what " + what, OUTSIDE, x -> x.by(63, 12, what));
            busy.stays("14 what " + what, OUTSIDE, x -> x.by(0, 0, what));
        }
        String text = "RD11TTTTT";
        for (int many = 0; many <= 5; many++) {
            Story story = Story.land(text);
            int first = 1 << many;
            story.stays("14 all ditches of " + many, 0, x -> x.by(first - 1, 0, 0));
            story.stays("14 one that is not of " + many, OUTSIDE, x -> x.by(first, 0, 0));
            story.stays("14 and all", OUTSIDE, x -> x.by(2 * first - 1, 0, 0));
            text = text + "C0" + (many + 1) + "0";
        }
        Story.begin().stays("14 no ditches", 1, x -> x.by(0, 12, 3));
        Story.begin().stays("14 ditch 0 of R", OUTSIDE, x -> x.by(1, 0, 3));
    }

    // A turning is a set of ditches that are open from now on, all others are not.
    private static void byTurnings() {
        Story story = Story.land("RD11M1M2M3M4M5C011C021C031C041C051");
        for (int turning = 0; turning < 32; turning++) {
            int open = turning;
            int least = Integer.numberOfTrailingZeros(turning) + 1;
            story.stays("14 turning " + turning, turning == 0 ? 0 : least, x -> x.by(open, 1, 2));
        }
        for (int turning = 0; turning < 64; turning++) {
            int open = turning;
            Story.busy().stays("14 none does with a wet town", 0, x -> x.by(open, 12, 3));
        }
    }

    // h (0 to 12): 0 is now.
    private static void byHours() {
        Story slow = Story.land("RD91S9TM1C010").then(x -> x.rain(0, 9));
        for (int h = 0; h <= 12; h++) {
            int hours = h;
            slow.stays("14 dung behind " + h, Math.max(0, 9 - h), x -> x.by(1, hours, 0));
            slow.stays("14 shut behind " + h, 9, x -> x.by(0, hours, 0));
            slow.stays("14 does behind " + h, h >= 9 ? 1 : 0, x -> x.by(1, hours, 3));
        }
    }

    // No town is wet (also none that is now): wet towns as bits of places.
    private static void byWetTowns() {
        Story first = Story.land("RTD91C101");
        first.stays("14 place 0, not yet", 0, x -> x.by(1, 0, 1));
        first.stays("14 place 0", 1, x -> x.by(1, 1, 1));
        Story last = Story.land("RD91TTTTTC051");
        last.stays("14 place 5", 32, x -> x.by(1, 1, 1));
        Story wet = last.then(x -> x.hour());
        wet.stays("14 wet now, behind 0", 32, x -> x.by(0, 0, 1));
        wet.stays("14 wet now, behind 12", 32, x -> x.by(0, 12, 1));
        wet.stays("14 does not", 0, x -> x.by(0, 0, 3));
        wet.then(x -> x.undo()).stays("14 dry again", 1, x -> x.by(0, 12, 3));
        Story.land("RD01TC011").stays("14 no buckets, not wet", 1, x -> x.by(1, 12, 3));
    }

    // Worth: buckets of all meadows, each by what it is worth to it.
    private static void byWorth() {
        Story.land("RD99T").stays("14 no meadows", 0, x -> x.by(0, 12, 2));
        Story two = Story.land("RD99D99M9M1C020C130").times(10, x -> x.rain(0, 9));
        two.stays("14 none came", 0, x -> x.by(0, 12, 2));
        two.stays("14 99 by 9", 891, x -> x.by(1, 12, 2));
        two.stays("14 9 by 1", 9, x -> x.by(2, 12, 2));
        two.stays("14 both", 900, x -> x.by(3, 12, 2));
        two.stays("14 behind 0", 0, x -> x.by(3, 0, 2));
        Story.land("RD99S0C011").stays("14 water elsewhere is worth nothing", 0, x -> x.by(1, 12, 2));
    }

    private static void once(String what, Story story, int h, int bits, int many) {
        story.stays(what, bits, x -> x.once(h, false));
        story.stays(what + ", many", many, x -> x.once(h, true));
    }

    // Promise 15: NONE.
    private static void onceNone() {
        once("15 R", Story.begin(), 0, 0, 0);
        once("15 R behind 12", Story.begin(), 12, 0, 0);
        once("15 never", Story.land(NEVER), 12, NONE, NONE);
        once("15 dung now", Story.land("RS1"), 0, NONE, NONE);
        once("15 no dung now", Story.land("RS0"), 0, 0, 0);
        Story slow = Story.land("RD91S9C010");
        once("15 behind 8", slow, 8, NONE, NONE);
        once("15 behind 9", slow, 9, 1, 1);
        Story twelve = Story.land("RD91D91S9C010C120").then(x -> x.turn(1)).times(2, x -> x.rain(1, 1));
        once("15 by a way of its own", twelve, 9, 2, 0);
        once("15 a wet town", Story.busy(), 12, NONE, NONE);
        Story wet = Story.land("RD91TC011").then(x -> x.hour());
        once("15 a town that is wet now", wet, 0, NONE, NONE);
        once("15 it was dry", wet.then(x -> x.undo()), 0, 1, 0);
    }

    // Promise 15: that by which fewest ditches are turned now; of like ones the least by bits.
    private static void onceLikeOnes() {
        Story three = Story.land("RD11D11D11S1C030C130C230");
        once("15 one of three: the least", three, 1, 1, 1);
        once("15 open already", three.then(x -> x.turn(2)), 1, 4, 0);
        once("15 open already, of two", three.then(x -> x.turn(2), x -> x.turn(1)), 1, 6, 0);
        Story all = Story.land("RD11D11D11D11D11S5C050C150C250C350C450");
        once("15 all five", all, 1, 31, 5);
        once("15 the last of five", all.then(x -> x.turn(0), x -> x.turn(1), x -> x.turn(2), x -> x.turn(3)), 1, 31, 1);
        Story shut = Story.land("RD11D11D11D11D11TC051C151C251C351C451");
        once("15 all five are dammed up", shut, 12, 0, 5);
        once("15 behind 0 none need be", shut, 0, 31, 0);
        // Of like ones the least by bits is the one that dams up, though digging would do it too.
        Story either = Story.land("RD11TM1C020C011");
        once("15 dam up 1 or dig 0", either, 1, 0, 1);
        Story six = Story.land("RS0S0S0TD11C010C020C100C120C200C431");
        once("15 ditch 5 alone is turned", six, 1, 0, 1);
        once("15 all others stay", six.then(x -> x.turn(0), x -> x.turn(4)), 1, 17, 1);
    }

    // Promise 16: OUTSIDE: h, t (1 to h).
    private static void twiceArguments() {
        for (Story story : new Story[] {Story.begin(), Story.land(NEVER), Story.land(SLOW)}) {
            for (int h : Edges.beyond(0, 12)) {
                for (int t : new int[] {Edges.LEAST, -1, 0, 1, 12, 13, Edges.MOST}) {
                    story.stays("16 twice(" + h + ", " + t + ")", OUTSIDE, x -> x.twice(h, t));
                }
            }
            for (int h = 0; h <= 12; h++) {
                int hours = h;
                for (int t : Edges.beyond(1, h)) {
                    story.stays("16 twice(" + h + ", " + t + ")", OUTSIDE, x -> x.twice(hours, t));
                }
                for (int t = 1; t <= h; t++) {
                    Check.isTrue("16 takes " + h + ", " + t, story.made().twice(h, t) != OUTSIDE);
                }
            }
        }
        Story.busy().stays("16 t of 0 hours", OUTSIDE, x -> x.twice(0, 1));
        Story.busy().stays("16 t = 0", OUTSIDE, x -> x.twice(12, 0));
        Story.busy().stays("16 t = 13", OUTSIDE, x -> x.twice(12, 13));
        Story.busy().stays("16 h = 13", OUTSIDE, x -> x.twice(13, 13));
    }

    private static void twice(String what, Story story, int h, int t, int want) {
        story.stays(what, want, x -> x.twice(h, t));
    }

    // Promise 16: a turning now, another one behind t hours; the fewest turned in all.
    private static void twiceEdges() {
        twice("16 R", Story.begin(), 1, 1, 0);
        twice("16 R behind 12", Story.begin(), 12, 12, 0);
        Story open = Story.land(SLOW);
        twice("16 nothing need be turned, t = 1", open, 12, 1, 0);
        twice("16 nothing need be turned, t = h", open, 12, 12, 0);
        twice("16 behind 9", open, 9, 9, 0);
        twice("16 behind 8", open, 8, 8, NONE);
        // One ditch, dug now: at t it would be too late for nine buckets.
        Story shut = Story.land("RD91S9C010");
        twice("16 dug now", shut, 9, 1, 1);
        twice("16 dug at 3 is in time", shut, 12, 3, 1);
        // The town must not be wet behind t either: no second turning dries it.
        Story town = Story.land("RD91TC011");
        twice("16 dammed up now", town, 1, 1, 1);
        twice("16 now, though the second comes at 12", town, 12, 12, 1);
        // Two stables by one dam: the first one t hours, then the other one.
        Story both = Story.land("RD91S4S5C010C020");
        twice("16 four hours, then five: ditch 0 is then shut", both, 9, 4, 3);
        twice("16 five hours, then four: ditch 0 goes ahead", both, 9, 5, 2);
        twice("16 neither in nine", both, 9, 6, NONE);
        twice("16 nor in eight", both, 8, 4, NONE);
        // The water is in the town an hour behind the stable: who digs late enough need not dam up.
        Story late = Story.land("RD91S1TC010C121");
        twice("16 behind 1 the town is dry yet", late, 1, 1, 1);
        twice("16 dug behind 1", late, 2, 1, 1);
        twice("16 dug now, and dammed up now", late, 2, 2, 2);
        twice("16 dug behind 1 is too early", late, 3, 1, 2);
        twice("16 dug behind 2", late, 3, 2, 1);
    }

    // Promise 16: NONE.
    private static void twiceNone() {
        twice("16 never", Story.land(NEVER), 12, 6, NONE);
        twice("16 dung and no ditch", Story.land("RS1"), 12, 1, NONE);
        twice("16 a wet town", Story.land("RD91TC011").then(x -> x.hour()), 12, 1, NONE);
        twice("16 a wet town in a busy land", Story.busy(), 1, 1, NONE);
        // Found by a search: more are turned in all than there are ditches.
        Story more = Story.land("RD52D34S0TS2S3C250C120C140C210C531C520");
        twice("16 eight of six ditches", more, 6, 3, 8);
    }

    // Promise 17: NONE.
    private static void richestNone() {
        Story.begin().stays("17 R", 0, x -> x.richest(0));
        Story.begin().stays("17 R behind 12", 0, x -> x.richest(12));
        Story.land(NEVER).stays("17 never", NONE, x -> x.richest(12));
        Story.land("RS1M1").stays("17 dung now", NONE, x -> x.richest(0));
        Story.land("RD91S9M1C010C120").stays("17 behind 8", NONE, x -> x.richest(8));
        Story.land("RD91S9M1C010C120").stays("17 behind 9", 3, x -> x.richest(9));
        Story.land("RD91TC011").then(x -> x.hour()).stays("17 a wet town", NONE, x -> x.richest(0));
        Story.busy().stays("17 a wet town in a busy land", NONE, x -> x.richest(12));
    }

    // Promise 17: of most worth behind them; of like ones the least by bits.
    private static void richestLikeOnes() {
        Story like = Story.land("RD22M3M3C010C020");
        like.stays("17 no worth yet: the least", 0, x -> x.richest(0));
        like.stays("17 of like ones the least", 1, x -> x.richest(1));
        like.then(x -> x.turn(1)).stays("17 as it is does not matter", 1, x -> x.richest(1));
        Story.land("RD22M3M4C010C020").stays("17 the richer one, alone", 2, x -> x.richest(1));
        Story.land("RD29M9TC011C020").stays("17 behind 12", 1, x -> x.richest(12));
        Story.land("RD22T").stays("17 no meadow", 0, x -> x.richest(12));
        Story five = Story.land("RD11D11D11D11D11M1C050C150C250C350C450");
        five.stays("17 all five", 31, x -> x.richest(1));
        // More worth by a way on which a town is wet is not looked at.
        Story wet = Story.land("RD99S0M1TC010C120C130");
        wet.stays("17 dry", 3, x -> x.richest(2));
        Story worse = Story.land("RD99TM1C010C020");
        worse.stays("17 the least that is dry", 2, x -> x.richest(1));
    }

    // Promise 18: NONE.
    private static void barredNone() {
        Story.begin().stays("18 R", NONE, x -> x.barred(0));
        Story.land("RD11M1T").stays("18 no stable", NONE, x -> x.barred(12));
        Story.land("RS0S0S0S0S0S0").stays("18 all clean", NONE, x -> x.barred(0));
        Story.land(SLOW).stays("18 behind 9", NONE, x -> x.barred(9));
        Story.land(SLOW).stays("18 behind 8", 1, x -> x.barred(8));
        Story.land("RD91S9C010").stays("18 by a ditch that is shut", NONE, x -> x.barred(9));
        Story.land("RS1D11C100").stays("18 place 0 by a ditch that is shut", NONE, x -> x.barred(1));
        Story.land("RD11S1S1C010C120").stays("18 all by the last turning", NONE, x -> x.barred(2));
        Story.busy().stays("18 washed, though a town is wet", NONE, x -> x.barred(0));
    }

    // Promise 18: the first stable.
    private static void barredFirst() {
        Story.land("RS1").stays("18 place 0", 0, x -> x.barred(12));
        Story.land("RTTTTTS1").stays("18 place 5", 5, x -> x.barred(12));
        Story.land("RS1S1S1S1S1S1").stays("18 of six", 0, x -> x.barred(12));
        Story.land("RS0S0S1S0S1S1").stays("18 of three", 2, x -> x.barred(12));
        Story.land("RS0S1").stays("18 behind 0", 1, x -> x.barred(0));
        // Each by a turning of its own: none is barred, though no turning does.
        Story.land("RD11S1S1C010C020").stays("18 one each", NONE, x -> x.barred(1));
        Story.land("RD11S1S2C010C020").stays("18 too little", 2, x -> x.barred(12));
        // By a turning that wets a town it is clean none the less.
        Story.land("RD11S1TC010C121").stays("18 wet", NONE, x -> x.barred(2));
    }

    // Promise 19: UNKNOWN; OUTSIDE.
    private static void freeArguments() {
        ditchAndHours("19 free", (x, d, h) -> x.free(d, h));
    }

    private interface OfDitch {
        int ask(StableRivers x, int ditch, int h);
    }

    private static void ditchAndHours(String what, OfDitch call) {
        Story busy = Story.busy();
        for (int ditch : Edges.unknown(6)) {
            busy.stays(what + " of " + ditch, UNKNOWN, x -> call.ask(x, ditch, 0));
            busy.stays(what + " of " + ditch, UNKNOWN, x -> call.ask(x, ditch, 12));
            for (int h : Edges.beyond(0, 12)) {
                busy.stays(what + ": UNKNOWN ahead of OUTSIDE", UNKNOWN, x -> call.ask(x, ditch, h));
            }
        }
        for (int h : Edges.beyond(0, 12)) {
            busy.stays(what + " by " + h, OUTSIDE, x -> call.ask(x, 0, h));
            busy.stays(what + " by " + h, OUTSIDE, x -> call.ask(x, 5, h));
            Story.land(NEVER).stays(what + " by " + h + ", never", OUTSIDE, x -> call.ask(x, 0, h));
        }
        String text = "RD11TTTTT";
        for (int many = 0; many <= 5; many++) {
            Story story = Story.land(text);
            int first = many;
            story.stays(what + ", the first that is not of " + many, UNKNOWN, x -> call.ask(x, first, 0));
            if (many > 0) {
                Check.isTrue(what + ", the last of " + many, call.ask(story.made(), many - 1, 0) >= 0);
            }
            text = text + "C0" + (many + 1) + "0";
        }
    }

    // Promise 19: in how many turnings that do a ditch is open.
    private static void freeEdges() {
        Story six = Story.land("RS0S0S0C010C020C100C120C200C210");
        for (int ditch = 0; ditch < 6; ditch++) {
            int d = ditch;
            six.stays("19 half of 64", 32, x -> x.free(d, 12));
            six.stays("19 half of 64, behind 0", 32, x -> x.free(d, 0));
            Story.busy().stays("19 none does with a wet town", 0, x -> x.free(d, 0));
        }
        Story.land(NEVER).stays("19 none does", 0, x -> x.free(0, 12));
        Story.land("RS0TC010").stays("19 one", 1, x -> x.free(0, 12));
        Story.land(SLOW).stays("19 behind 8", 0, x -> x.free(0, 8));
        Story.land(SLOW).stays("19 behind 9", 1, x -> x.free(0, 9));
        Story.land("RD91TC010").stays("19 shut it must be", 0, x -> x.free(0, 1));
        Story.land("RD91TC010").stays("19 but not now", 1, x -> x.free(0, 0));
    }

    // Promise 20: UNKNOWN; OUTSIDE.
    private static void stuckArguments() {
        ditchAndHours("20 stuck", (x, d, h) -> x.stuck(d, h));
    }

    // Promise 20: by how many more are turned; NONE: it does no more (or it did not, anyhow).
    private static void stuckEdges() {
        Story either = Story.land("RD11D11D11S1C030C130C230");
        either.stays("20 another one instead", 0, x -> x.stuck(0, 1));
        Story way = Story.land("RD55S0S0S5C030C010C120C230");
        way.stays("20 three ditches for one", 2, x -> x.stuck(0, 12));
        way.stays("20 in three hours", 2, x -> x.stuck(0, 3));
        way.stays("20 in two it does no more", NONE, x -> x.stuck(0, 2));
        way.stays("20 it did not, anyhow", NONE, x -> x.stuck(0, 0));
        way.stays("20 nor with the last one", NONE, x -> x.stuck(3, 0));
        way.stays("20 the last one is not needed", 0, x -> x.stuck(3, 12));
        Story.land(NEVER).stays("20 never", NONE, x -> x.stuck(0, 12));
        Story.land(SLOW).stays("20 an open one sticks", 0, x -> x.stuck(0, 9));
        Story.land("RD91S9C010").stays("20 a shut one sticks", NONE, x -> x.stuck(0, 9));
        Story.land("RD91TC011").stays("20 it can not be dammed up", NONE, x -> x.stuck(0, 1));
        Story.land("RD91TC011").stays("20 behind 0", 0, x -> x.stuck(0, 0));
        // Dammed up it can not be, but led away: a lesser ditch is dug.
        Story.land("RD91TM1C020C011").stays("20 led away", 0, x -> x.stuck(1, 1));
        for (int ditch = 0; ditch < 6; ditch++) {
            int d = ditch;
            Story.busy().stays("20 a wet town", NONE, x -> x.stuck(d, 12));
        }
    }
}
