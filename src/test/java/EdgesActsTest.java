/** Promises 8 to 12: each sentence of the document that names an edge has a part of its own. */
final class EdgesActsTest {
    private static final int UNKNOWN = Edges.UNKNOWN, OUTSIDE = Edges.OUTSIDE, STATE = Edges.STATE;
    private static final int NONE = Edges.NONE;
    /** Nine buckets a turn at most, so eleven rains from none to 99. */
    private static final String DAM_OF_NONE = "RD01S5M1T";

    private EdgesActsTest() {
    }

    public static void main(String[] args) {
        hourOfDams();
        hourOfStables();
        hourOfDung();
        hourOfTowns();
        hourByTheLeastDitch();
        hourOfNothing();
        turn();
        rainArguments();
        rainTo99();
        rainPairs();
        undoOfNone();
        undoOfEachAct();
        undoOf14();
        actsThatAreForgotten();
        whatIsNoAct();
        judgeArguments();
        judgeFigures();
        judgeWetTowns();
        judgeChangesNothing();
        Check.end("EdgesActsTest");
    }

    /** A dam of s buckets that lets go r, to a meadow: what is left, and what came. */
    private static void damLetsGo(int s, int r, int came) {
        Story story = Story.land("RD" + s + r + "M1C011").then(x -> x.hour());
        story.due("8 left of " + s + " by " + r, s - came, x -> x.place(0, 1));
        story.due("8 came of " + s + " by " + r, came, x -> x.place(1, 1));
    }

    // Promise 8: lets go what it has, a dam no more than it lets go an hour.
    private static void hourOfDams() {
        damLetsGo(0, 1, 0);
        damLetsGo(0, 9, 0);
        damLetsGo(1, 1, 1);
        damLetsGo(1, 9, 1);
        damLetsGo(4, 5, 4);
        damLetsGo(5, 5, 5);
        damLetsGo(6, 5, 5);
        damLetsGo(9, 1, 1);
        damLetsGo(9, 8, 8);
        damLetsGo(9, 9, 9);
        Story full = Story.land("RD99M1C011").times(10, x -> x.rain(0, 9));
        full.times(10, x -> x.hour()).due("8 of 99 by 9, ten hours", 9, x -> x.place(0, 1));
        full.times(11, x -> x.hour()).due("8 of 99 by 9, eleven hours", 0, x -> x.place(0, 1));
        full.times(12, x -> x.hour()).due("8 none is left to go", 99, x -> x.place(1, 1));
    }

    // Promise 8: a stable lets go what it has, all of it.
    private static void hourOfStables() {
        Story held = Story.land("RD99S0M1C011C120").then(x -> x.rain(0, 9), x -> x.rain(0, 9)).times(3, x -> x.hour());
        held.due("8 held by no open ditch", 27, x -> x.place(1, 1));
        Story gone = held.then(x -> x.turn(0), x -> x.turn(1), x -> x.hour());
        gone.due("8 all 27 at once", 27, x -> x.place(2, 1));
        gone.due("8 none is left", 0, x -> x.place(1, 1));
        Story.land("RS9M1C011").then(x -> x.hour()).due("8 dung does not go", 9, x -> x.place(0, 2));
        Story.land("RS9M1C011").then(x -> x.hour()).due("8 a stable of none", 0, x -> x.place(1, 1));
    }

    private static void washes(int buckets, int dung, int washed) {
        Story story = Story.land("RD" + buckets + "9S" + dung + "C011");
        story.due("8 " + buckets + " wash of " + dung, washed, x -> x.hour());
        story.then(x -> x.hour()).due("8 dung left of " + dung, dung - washed, x -> x.place(1, 2));
        story.then(x -> x.hour()).due("8 the water stays", buckets, x -> x.place(1, 1));
        story.then(x -> x.hour()).due("8 it washes as it comes, not again", 0, x -> x.hour());
    }

    // Promise 8: buckets wash away as much dung (what there is): how much is washed away.
    private static void hourOfDung() {
        washes(0, 0, 0);
        washes(0, 9, 0);
        washes(1, 0, 0);
        washes(1, 1, 1);
        washes(4, 5, 4);
        washes(5, 5, 5);
        washes(6, 5, 5);
        washes(9, 9, 9);
        washes(9, 0, 0);
        // What comes elsewhere washes nothing.
        Story.land("RD99TC011").due("8 into a town", 0, x -> x.hour());
        Story.land("RD99M9C011").due("8 into a meadow", 0, x -> x.hour());
        Story.land("RD99D99C011").due("8 into a dam", 0, x -> x.hour());
        Story.land("RD99D99D99D99S5TC041C151C231").due("8 into a stable among others", 5, x -> x.hour());
        Story.land("RD22D33S4C021C121").due("8 of two streams no more than there is", 4, x -> x.hour());
        Story.land("RD99S9S9C011C121").then(x -> x.hour()).due("8 the same water washes on", 9, x -> x.hour());
        Story five = Story.land("RD99S9S9S9S9S9C011C121C231C341C451");
        five.times(4, x -> x.hour()).due("8 the last of five stables", 9, x -> x.hour());
        five.times(5, x -> x.hour()).due("8 all are clean", 0, x -> x.count(5));
        Story.land("RD99D99D99S9S9S9C031C141C251").due("8 three stables at once", 27, x -> x.hour());
    }

    // Promise 8: a town to which buckets come is wet from then on; the first hour is kept.
    private static void hourOfTowns() {
        Story dry = Story.land("RD01TC011").times(5, x -> x.hour());
        dry.due("8 none come: dry", 0, x -> x.count(7));
        dry.then(x -> x.rain(0, 1), x -> x.hour()).due("8 one comes: wet at 6", 6, x -> x.place(1, 4));
        Story wet = Story.land("RD21TTC011C020").then(x -> x.hour(), x -> x.turn(0), x -> x.turn(1), x -> x.hour());
        wet.due("8 the one is wet from then on", 1, x -> x.place(1, 4));
        wet.due("8 the other one an hour later", 2, x -> x.place(2, 4));
        wet.times(9, x -> x.hour()).due("8 both still are", 6, x -> x.count(7));
        Story all = Story.land("RD91S0TTTTC021C131").then(x -> x.hour());
        all.due("8 one of four", 4, x -> x.count(7));
        Story.land("RD91M1S0C011").then(x -> x.hour()).due("8 no town, none wet", 0, x -> x.count(7));
    }

    // Promise 8: by its least ditch that is open; if none is, nothing.
    private static void hourByTheLeastDitch() {
        Story story = Story.land("RD55M1M1M1M1M1C011C021C031C041C051");
        for (int least = 0; least < 5; least++) {
            int place = least + 1;
            story.then(x -> x.hour()).due("8 by ditch " + least, 5, x -> x.place(place, 1));
            int shut = least;
            story = story.then(x -> x.turn(shut));
        }
        story.then(x -> x.hour()).due("8 none is open", 5, x -> x.place(0, 1));
        // A dry dam does not leave its least ditch to another one.
        Story.land("RD01D11M1M1C021C131").then(x -> x.hour()).due("8 each for itself", 1, x -> x.place(3, 1));
        // All at once: what comes in this hour goes in the next one, whatever the places' numbers.
        Story.land("RD11S0M1C011C121").then(x -> x.hour()).due("8 not through at once", 0, x -> x.place(2, 1));
        Story.land("RM1S0D11C211C101").then(x -> x.hour()).due("8 nor by ditches told so", 0, x -> x.place(0, 1));
        Story.land("RD01D99C101").then(x -> x.hour()).due("8 a dam takes water too", 9, x -> x.place(0, 1));
    }

    // Promise 8: of R, of no ditches; the hour is one more; it is an act.
    private static void hourOfNothing() {
        Story.land("R").due("8 R", 0, x -> x.hour());
        Story.land("RD99S9M9T").due("8 no ditches", 0, x -> x.hour());
        Story.land("RD99S9M9T").then(x -> x.hour(), x -> x.undo()).like("8 and back", Story.land("RD99S9M9T"));
        Story.land("R").then(x -> x.hour()).due("8 the hour of R", 1, x -> x.count(3));
        Story.land("R").times(100, x -> x.hour()).due("8 a hundred", 100, x -> x.count(3));
    }

    // Promise 9: 1 if it is open then, 0. UNKNOWN.
    private static void turn() {
        Story busy = Story.busy();
        for (int ditch : Edges.unknown(6)) {
            busy.stays("9 turn(" + ditch + ")", UNKNOWN, x -> x.turn(ditch));
            Story.begin().stays("9 turn(" + ditch + ") of R", UNKNOWN, x -> x.turn(ditch));
        }
        Story.begin().stays("9 no ditches", UNKNOWN, x -> x.turn(0));
        Story.land("RD11TT").stays("9 places alone", UNKNOWN, x -> x.turn(0));
        Story one = Story.land("RD11TTC010");
        one.stays("9 the first that is not", UNKNOWN, x -> x.turn(1));
        Story land = Story.land(Story.FULL_LAND);
        int[] open = {1, 1, 0, 1, 1, 0};
        for (int ditch = 0; ditch < 6; ditch++) {
            int d = ditch;
            land.due("9 turn(" + d + ")", 1 - open[d], x -> x.turn(d));
            land.then(x -> x.turn(d)).due("9 back " + d, open[d], x -> x.turn(d));
            land.then(x -> x.turn(d)).due("9 that one alone", 27 ^ 1 << d, x -> x.count(4));
            land.then(x -> x.turn(d), x -> x.undo()).like("9 undone " + d, land);
        }
    }

    // Promise 10: k (1 to 9); UNKNOWN; OUTSIDE: k.
    private static void rainArguments() {
        Story busy = Story.busy();
        for (int place : Edges.unknown(6)) {
            busy.stays("10 rain(" + place + ", 1)", UNKNOWN, x -> x.rain(place, 1));
            busy.stays("10 rain(" + place + ", 9)", UNKNOWN, x -> x.rain(place, 9));
        }
        for (int k : Edges.beyond(1, 9)) {
            busy.stays("10 rain(0, " + k + ")", OUTSIDE, x -> x.rain(0, k));
            busy.stays("10 rain(4, " + k + ")", OUTSIDE, x -> x.rain(4, k));
        }
        for (int place : new int[] {1, 2, 3, 5}) {
            busy.stays("10 no dam: " + place, STATE, x -> x.rain(place, 1));
            busy.stays("10 no dam: " + place, STATE, x -> x.rain(place, 9));
        }
        Story.begin().stays("10 no places", UNKNOWN, x -> x.rain(0, 1));
        for (int k = 1; k <= 9; k++) {
            int more = k;
            busy.due("10 rain(0, " + k + ")", 1 + k, x -> x.rain(0, more));
            busy.due("10 rain(4, " + k + ")", 4 + k, x -> x.rain(4, more));
            Story.land(DAM_OF_NONE).due("10 from none", k, x -> x.rain(0, more));
        }
        Story.land("RTTTTTD11").due("10 place 5", 2, x -> x.rain(5, 1));
    }

    private static Story damOf(int buckets) {
        Story story = Story.land(DAM_OF_NONE).times(buckets / 9, x -> x.rain(0, 9));
        return buckets % 9 == 0 ? story : story.then(x -> x.rain(0, buckets % 9));
    }

    // Promise 10: STATE: would have more than 99.
    private static void rainTo99() {
        for (int has = 88; has <= 99; has++) {
            int had = has;
            damOf(has).due("10 there are " + has, has, x -> x.place(0, 1));
            for (int k = 1; k <= 9; k++) {
                int more = k;
                if (has + k <= 99) {
                    damOf(had).due("10 " + has + " and " + k, had + more, x -> x.rain(0, more));
                } else {
                    damOf(had).stays("10 " + has + " and " + k, STATE, x -> x.rain(0, more));
                }
            }
        }
        // At 99 with 14 acts in the row: a refused rain forgets none.
        Story full = Story.land("RD99TC010").times(5, x -> x.turn(0)).times(10, x -> x.rain(0, 9));
        full.due("10 14 acts", 14, x -> x.count(9));
        full.stays("10 99 and 1", STATE, x -> x.rain(0, 1));
        full.then(x -> x.undo()).due("10 room again", 99, x -> x.rain(0, 9));
        // What a ditch brings to a dam of 99 it has beyond it; then no rain comes to it.
        Story more = Story.land("RD11D99C010").times(10, x -> x.rain(1, 9)).then(x -> x.turn(0), x -> x.hour());
        more.due("10 by a ditch", 100, x -> x.place(1, 1));
        more.stays("10 100 and 1", STATE, x -> x.rain(1, 1));
        more.due("10 the other one has room", 1, x -> x.rain(0, 1));
    }

    // Promise 10: of several the first that it names: UNKNOWN; OUTSIDE; STATE.
    private static void rainPairs() {
        Story busy = Story.busy();
        Story full = damOf(99);
        for (int k : Edges.beyond(1, 9)) {
            for (int place : Edges.unknown(6)) {
                busy.stays("10 UNKNOWN ahead of OUTSIDE", UNKNOWN, x -> x.rain(place, k));
            }
            for (int place : new int[] {1, 2, 3, 5}) {
                busy.stays("10 OUTSIDE ahead of STATE, no dam", OUTSIDE, x -> x.rain(place, k));
            }
            full.stays("10 OUTSIDE ahead of STATE, more than 99", OUTSIDE, x -> x.rain(0, k));
            full.stays("10 UNKNOWN, with a dam of 99", UNKNOWN, x -> x.rain(4, k));
        }
    }

    // Promise 11: STATE: there is none.
    private static void undoOfNone() {
        Story.begin().stays("11 at first", STATE, x -> x.undo());
        Story.land(Story.FULL_LAND).stays("11 of a new land", STATE, x -> x.undo());
        Story.busy().then(x -> x.land()).stays("11 of a land made anew", STATE, x -> x.undo());
        Story.busy().then(x -> x.again(0)).stays("11 behind again", STATE, x -> x.undo());
        Story one = Story.land(Story.FULL_LAND).then(x -> x.hour(), x -> x.undo());
        one.stays("11 all is undone", STATE, x -> x.undo());
        Story.busy().times(14, x -> x.undo()).stays("11 all 14 are undone", STATE, x -> x.undo());
    }

    // Promise 11: the last act is undone: how many are left.
    private static void undoOfEachAct() {
        Story land = Story.land("RD73S5TC011C121");
        Story.Call[] acts = {x -> x.hour(), x -> x.turn(0), x -> x.turn(1), x -> x.rain(0, 9)};
        for (Story.Call one : acts) {
            land.then(one).due("11 none are left", 0, x -> x.undo());
            land.then(one, x -> x.undo()).like("11 as it was", land);
            for (Story.Call two : acts) {
                land.then(one, two).due("11 one is left", 1, x -> x.undo());
                land.then(one, two, x -> x.undo()).like("11 as it was behind the first", land.then(one));
                land.then(one, two, x -> x.undo(), x -> x.undo()).like("11 as it was at first", land);
            }
        }
        // An undoing is no act: the next one goes further back.
        Story wet = land.times(2, x -> x.hour());
        wet.due("11 wet", 4, x -> x.count(7));
        wet.then(x -> x.undo()).due("11 dry again", 0, x -> x.count(7));
        wet.then(x -> x.undo(), x -> x.hour()).like("11 and wet once more", wet);
    }

    // Promise 11: a row (14 at most; of more the first one is forgotten).
    private static void undoOf14() {
        Story land = Story.land("RD91TC010");
        for (int many : new int[] {1, 13, 14, 15, 16, 29, 100}) {
            Story story = land.times(many, x -> x.hour());
            int row = Math.min(many, 14);
            story.due("11 acts of " + many, row, x -> x.count(9));
            StableRivers x = story.made();
            for (int left = row - 1; left >= 0; left--) {
                Check.due("11 left of " + many, x.undo(), left);
                Check.due("11 in the row", x.count(9), left);
                Check.due("11 the hour", x.count(3), many - row + left);
            }
            Check.due("11 no more of " + many, x.undo(), STATE);
            Check.due("11 the hour stays", x.count(3), many - row);
        }
        // Room that an undoing has made is filled before another one is forgotten.
        Story again = land.times(14, x -> x.hour()).then(x -> x.undo(), x -> x.turn(0));
        again.times(14, x -> x.undo()).like("11 back to the first", land);
    }

    // Of more than 14 the first one is forgotten, whichever it is and whichever comes.
    private static void actsThatAreForgotten() {
        Story land = Story.land("RD73S5TC011C121");
        Story.Call[] acts = {x -> x.hour(), x -> x.turn(0), x -> x.rain(0, 3)};
        for (Story.Call first : acts) {
            for (Story.Call last : acts) {
                Story full = land.then(first).times(13, x -> x.hour());
                full.times(14, x -> x.undo()).like("11 14 are all undone", land);
                Story more = full.then(last);
                more.due("11 14 are kept", 14, x -> x.count(9));
                more.times(14, x -> x.undo()).stays("11 no more than 14", STATE, x -> x.undo());
                // Going on from a slot empties the row of both, so that they can be held together.
                more.times(14, x -> x.undo()).then(x -> x.keep(0), x -> x.again(0))
                        .like("11 the first one stays done", land.then(first, x -> x.keep(0), x -> x.again(0)));
            }
        }
    }

    // The row holds hours, turnings and rain; nothing else is an act.
    private static void whatIsNoAct() {
        Story full = Story.land("RD73S5TC011C121").times(14, x -> x.turn(0));
        Story.Call[] calls = {x -> x.turn(2), x -> x.turn(-1), x -> x.rain(1, 1), x -> x.rain(0, 0), x -> x.rain(3, 1),
            x -> x.keep(0), x -> x.keep(2), x -> x.again(0), x -> x.seed(9), x -> x.days(40), x -> x.see(0, 0, 0),
            x -> x.unsee(), x -> x.write('T'), x -> x.wipe(), x -> x.fault(), x -> x.judge(1, 6), x -> x.behind(0, 1, 0),
            x -> x.by(0, 1, 0), x -> x.once(1, true), x -> x.twice(1, 1), x -> x.richest(1), x -> x.barred(1),
            x -> x.free(0, 1), x -> x.stuck(0, 1), x -> x.share(0, 1, true), x -> x.chance(1, 1, true),
            x -> x.mean(1, 1, true), x -> x.fit(0), x -> x.kings(1, 1, true), x -> x.count(9)};
        for (int i = 0; i < calls.length; i++) {
            full.then(calls[i]).due("11 14 acts behind call " + i, 14, x -> x.count(9));
            full.then(calls[i]).due("11 13 are left behind call " + i, 13, x -> x.undo());
            full.then(calls[i]).times(14, x -> x.undo()).due("11 the first is there, " + i, 3, x -> x.count(4));
        }
    }

    // Promise 12: n steps (1 to 8); OUTSIDE: n, row (0 or more, n figures at most).
    private static void judgeArguments() {
        Story busy = Story.busy();
        for (int n : Edges.beyond(1, 8)) {
            for (int row : new int[] {0, 6, -1, Edges.LEAST, Edges.MOST}) {
                busy.stays("12 judge(" + n + ", " + row + ")", OUTSIDE, x -> x.judge(n, row));
            }
        }
        int more = 1;
        for (int n = 1; n <= 8; n++) {
            more *= 10;
            int steps = n;
            int first = more;
            busy.stays("12 the least row of " + n, NONE, x -> x.judge(steps, 0));
            busy.stays("12 the greatest row of " + n, 0, x -> x.judge(steps, first - 1));
            for (int row : new int[] {first, first + 6, -1, Edges.LEAST, Edges.LEAST + 1, Edges.MOST - 1, Edges.MOST}) {
                busy.stays("12 judge(" + n + ", " + row + ")", OUTSIDE, x -> x.judge(steps, row));
            }
        }
        Story.begin().stays("12 n of R", OUTSIDE, x -> x.judge(0, 0));
        Story.begin().stays("12 row of R", OUTSIDE, x -> x.judge(8, 100000000));
    }

    // Promise 12: the first that can not be (there is no such one); NONE: none. Places are told from 0.
    private static void judgeFigures() {
        Story land = Story.land(Story.FULL_LAND);
        for (int figure = 0; figure <= 9; figure++) {
            int one = figure;
            int want = figure <= 6 ? NONE : 0;
            land.stays("12 figure " + figure, want, x -> x.judge(1, one));
            land.stays("12 as the last of 8", figure <= 6 ? NONE : 7, x -> x.judge(8, one));
            land.stays("12 behind an hour", figure <= 6 ? NONE : 1, x -> x.judge(2, 60 + one));
        }
        land.stays("12 two that can not be", 1, x -> x.judge(3, 687));
        land.stays("12 eight", 7, x -> x.judge(8, 66666667));
        String text = "RD11TTTTT";
        for (int many = 0; many <= 5; many++) {
            Story story = Story.land(text);
            int first = many;
            story.stays("12 the first ditch that is not of " + many, 0, x -> x.judge(1, first));
            if (many > 0) {
                story.stays("12 the last of " + many, NONE, x -> x.judge(1, first - 1));
            }
            story.stays("12 an hour", NONE, x -> x.judge(1, 6));
            text = text + "C0" + (many + 1) + "0";
        }
        Story.begin().stays("12 eight hours of R", NONE, x -> x.judge(8, 66666666));
        Story.begin().stays("12 ditch 0 of R", 0, x -> x.judge(8, 6666666));
    }

    // Promise 12: or by which a town is wet that was not.
    private static void judgeWetTowns() {
        Story open = Story.land("RD91TC011");
        open.stays("12 by the first step", 0, x -> x.judge(1, 6));
        open.stays("12 by the first of 8", 0, x -> x.judge(8, 66666666));
        open.stays("12 six turnings, then an hour", 6, x -> x.judge(7, 6));
        open.stays("12 not by turnings alone", NONE, x -> x.judge(8, 0));
        open.stays("12 shut, then an hour", NONE, x -> x.judge(2, 6));
        open.stays("12 ahead of one that can not be", 0, x -> x.judge(2, 69));
        open.stays("12 behind one that can not be", 0, x -> x.judge(2, 96));
        Story shut = Story.land("RD91TC010");
        shut.stays("12 seven turnings, then an hour", 7, x -> x.judge(8, 6));
        shut.stays("12 six turnings, then an hour: shut", NONE, x -> x.judge(7, 6));
        open.then(x -> x.hour()).stays("12 a town that was wet", NONE, x -> x.judge(8, 66666666));
        open.then(x -> x.hour(), x -> x.undo()).stays("12 that is dry again", 0, x -> x.judge(1, 6));
        Story two = Story.land("RD91TTC011C021").then(x -> x.hour());
        two.stays("12 another town", 2, x -> x.judge(3, 606));
        Story.land("RD01TC011").stays("12 no buckets come", NONE, x -> x.judge(8, 66666666));
    }

    // Nothing is changed by what is judged.
    private static void judgeChangesNothing() {
        Story.busy().stays("12 steps that can be", NONE, x -> x.judge(8, 1266666));
        Story.busy().stays("12 steps to one that can not be", 5, x -> x.judge(8, 12666966));
    }
}
