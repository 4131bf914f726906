/** Promises 30 to 32: each sentence of the document that names an edge has a part of its own. */
final class EdgesSlotsTest {
    private static final int UNKNOWN = Edges.UNKNOWN, OUTSIDE = Edges.OUTSIDE, STATE = Edges.STATE;

    private EdgesSlotsTest() {
    }

    public static void main(String[] args) {
        keepArguments();
        keepAnswers();
        keepIsApart();
        againArguments();
        againOfNone();
        againEmptiesTheRow();
        againBringsAllBack();
        againLeavesTheRest();
        countArguments();
        countOfNothing();
        countOfAll();
        countOfLetters();
        countOfHoursAndActs();
        Check.end("EdgesSlotsTest");
    }

    // Promise 30: slots 0 to 1; UNKNOWN.
    private static void keepArguments() {
        for (Story story : new Story[] {Story.begin(), Story.busy()}) {
            for (int slot : Edges.unknown(2)) {
                story.stays("30 keep(" + slot + ")", UNKNOWN, x -> x.keep(slot));
            }
        }
    }

    // Promise 30: they are kept: the hour.
    private static void keepAnswers() {
        for (int slot = 0; slot <= 1; slot++) {
            int s = slot;
            Story.begin().due("30 at first", 0, x -> x.keep(s));
            Story.begin().then(x -> x.keep(s)).due("30 of R", 0, x -> x.again(s));
            Story.busy().due("30 busy", 6, x -> x.keep(s));
            Story.begin().times(400, x -> x.hour()).due("30 at 400", 400, x -> x.keep(s));
        }
    }

    // The slots are two; what is kept anew takes the place of what was.
    private static void keepIsApart() {
        Story hours = Story.begin().then(x -> x.keep(0), x -> x.hour(), x -> x.keep(1), x -> x.hour());
        hours.due("30 slot 0", 0, x -> x.again(0));
        hours.due("30 slot 1", 1, x -> x.again(1));
        hours.then(x -> x.keep(0)).due("30 slot 0 anew", 2, x -> x.again(0));
        hours.then(x -> x.keep(0)).due("30 slot 1 stays", 1, x -> x.again(1));
        hours.then(x -> x.keep(1)).due("30 slot 1 anew", 2, x -> x.again(1));
        hours.then(x -> x.keep(1)).due("30 slot 0 stays", 0, x -> x.again(0));
        // What is done behind it is not kept, and to keep is no act.
        Story.land("RD91TC011").then(x -> x.keep(0), x -> x.hour(), x -> x.turn(0), x -> x.again(0), x -> x.keep(1))
                .like("30 as it was", Story.land("RD91TC011").then(x -> x.keep(0), x -> x.keep(1)));
        Story.busy().then(x -> x.keep(1)).due("30 the row stays", 14, x -> x.count(9));
    }

    // Promise 31: UNKNOWN.
    private static void againArguments() {
        for (Story story : new Story[] {Story.begin(), Story.busy(), Story.begin().then(x -> x.keep(0), x -> x.keep(1))}) {
            for (int slot : Edges.unknown(2)) {
                story.stays("31 again(" + slot + ")", UNKNOWN, x -> x.again(slot));
            }
        }
    }

    // Promise 31: STATE: none were kept.
    private static void againOfNone() {
        Story begin = Story.begin();
        begin.stays("31 slot 0 at first", STATE, x -> x.again(0));
        begin.stays("31 slot 1 at first", STATE, x -> x.again(1));
        begin.then(x -> x.keep(0)).stays("31 slot 1 yet", STATE, x -> x.again(1));
        begin.then(x -> x.keep(1)).stays("31 slot 0 yet", STATE, x -> x.again(0));
        begin.then(x -> x.keep(2)).stays("31 by no such slot", STATE, x -> x.again(0));
        Story acts = Story.land("RD91TC011").times(3, x -> x.hour());
        acts.stays("31 the row stays", STATE, x -> x.again(0));
        // What was kept is gone with the land, not with a text that is none.
        Story anew = Story.busy().then(x -> x.land());
        anew.stays("31 slot 0 is gone", STATE, x -> x.again(0));
        anew.stays("31 slot 1 is gone", STATE, x -> x.again(1));
        Story fault = Story.busy().then(x -> x.write('X'), x -> x.land());
        fault.due("31 slot 0 is not", 1, x -> x.again(0));
        fault.due("31 slot 1 is not", 5, x -> x.again(1));
    }

    // The row of acts is empty when one goes on.
    private static void againEmptiesTheRow() {
        for (int slot = 0; slot <= 1; slot++) {
            int s = slot;
            Story gone = Story.busy().then(x -> x.again(s));
            gone.due("31 no acts", 0, x -> x.count(9));
            gone.stays("31 nothing to undo", STATE, x -> x.undo());
            gone.then(x -> x.hour()).due("31 one act", 1, x -> x.count(9));
            gone.then(x -> x.hour(), x -> x.undo()).like("31 and back", gone);
            gone.times(14, x -> x.hour()).times(14, x -> x.undo()).like("31 14 and back", gone);
        }
        Story now = Story.land("RD91TC011").then(x -> x.hour(), x -> x.keep(0), x -> x.again(0));
        now.stays("31 also when nothing was done behind it", STATE, x -> x.undo());
    }

    // Buckets, dung, ditches, wet towns, the hour.
    private static void againBringsAllBack() {
        Story kept = Story.land("RD73S5M4TD91S2C011C120C131C450").then(x -> x.hour(), x -> x.hour());
        Story back = kept.then(x -> x.keep(0), x -> x.rain(4, 9), x -> x.turn(3), x -> x.turn(2), x -> x.turn(1))
                .times(3, x -> x.hour()).then(x -> x.again(0));
        back.due("31 the hour", 2, x -> x.count(3));
        back.due("31 buckets", 1, x -> x.place(0, 1));
        back.due("31 buckets", 9, x -> x.place(4, 1));
        back.due("31 dung", 2, x -> x.place(5, 2));
        back.due("31 ditches", 5, x -> x.count(4));
        back.due("31 wet towns", 8, x -> x.count(7));
        back.due("31 the hour of it", 2, x -> x.place(3, 4));
        back.like("31 all", kept.then(x -> x.keep(0), x -> x.again(0)));
        back.then(x -> x.hour(), x -> x.again(0)).like("31 a second time", back);
        // Dry towns are dry again.
        Story dry = Story.land("RD91TC011").then(x -> x.keep(1), x -> x.hour(), x -> x.again(1));
        dry.due("31 dry again", 0, x -> x.count(7));
    }

    // The text, what is seen, the seed and the other slot are not kept.
    private static void againLeavesTheRest() {
        Story busy = Story.busy().then(x -> x.write('T'), x -> x.unsee(), x -> x.see(0, 0, 3), x -> x.seed(-5));
        Story back = busy.then(x -> x.again(0));
        back.due("31 the text", 39, x -> x.count(0));
        back.due("31 seen", 1, x -> x.count(10));
        back.due("31 the seed", -5, x -> x.seed(0));
        back.due("31 the other slot", 5, x -> x.again(1));
        back.due("31 this one", 1, x -> x.again(0));
    }

    // Promise 32: 0 to 10; OUTSIDE.
    private static void countArguments() {
        for (Story story : new Story[] {Story.begin(), Story.busy()}) {
            for (int what : Edges.beyond(0, 10)) {
                story.stays("32 count(" + what + ")", OUTSIDE, x -> x.count(what));
            }
        }
        int[] wants = {38, 6, 6, 6, 63, 0, 29, 8, 56, 14, 6};
        for (int what = 0; what <= 10; what++) {
            int which = what;
            Story.busy().stays("32 count(" + what + ")", wants[what], x -> x.count(which));
        }
    }

    private static void countOfNothing() {
        for (int what = 0; what <= 10; what++) {
            int which = what;
            Story.begin().stays("32 at first " + what, 0, x -> x.count(which));
            Story.land("R").stays("32 of R " + what, what == 0 ? 1 : 0, x -> x.count(which));
        }
    }

    // 1 places, 2 ditches, 4 open ditches, 5 all dung, 6 buckets of all places, 7 wet towns, 8 worth: none and all.
    private static void countOfAll() {
        Story six = Story.land("RS9S9S9S9S9S9C011C121C231C341C451C501");
        six.stays("32 six places", 6, x -> x.count(1));
        six.stays("32 six ditches", 6, x -> x.count(2));
        six.stays("32 all open", 63, x -> x.count(4));
        six.stays("32 all dung", 54, x -> x.count(5));
        six.stays("32 no buckets", 0, x -> x.count(6));
        Story dams = Story.land("RD99D99D99D99D99D99");
        dams.stays("32 buckets of six dams", 54, x -> x.count(6));
        dams.stays("32 no dung", 0, x -> x.count(5));
        dams.stays("32 no ditches", 0, x -> x.count(2));
        dams.times(10, x -> x.rain(0, 9)).then(x -> x.rain(5, 9)).stays("32 with rain", 153, x -> x.count(6));
        Story towns = Story.land("RTTTTTD91C501C511C521C531C541");
        for (int ditch = 0; ditch < 5; ditch++) {
            int d = ditch;
            towns.stays("32 wet towns ahead of " + ditch, (1 << d) - 1, x -> x.count(7));
            towns = towns.then(x -> x.hour(), x -> x.turn(d));
        }
        towns.stays("32 five wet towns", 31, x -> x.count(7));
        towns.stays("32 no worth", 0, x -> x.count(8));
        Story meadows = Story.land("RM9D99D99M1C101C231").times(5, x -> x.rain(1, 9)).times(12, x -> x.hour());
        meadows.stays("32 worth", 54 * 9 + 9, x -> x.count(8));
    }

    // 0 letters of the text, up to 48.
    private static void countOfLetters() {
        for (int many : new int[] {0, 1, 47, 48}) {
            Story.begin().times(many, x -> x.write('R')).stays("32 letters", many, x -> x.count(0));
        }
        Story.begin().times(49, x -> x.write('R')).stays("32 no more than 48", 48, x -> x.count(0));
    }

    // 3 the hour, which has no end; 9 acts in the row, 14 at most; 10 seen, 6 at most.
    private static void countOfHoursAndActs() {
        for (int many : new int[] {0, 1, 13, 14, 15, 100}) {
            Story story = Story.begin().times(many, x -> x.hour());
            story.stays("32 the hour", many, x -> x.count(3));
            story.stays("32 acts", Math.min(many, 14), x -> x.count(9));
        }
        for (int many : new int[] {0, 1, 5, 6, 7}) {
            Story story = Story.land("RT").times(many, x -> x.see(0, 0, 0));
            story.stays("32 seen", Math.min(many, 6), x -> x.count(10));
        }
    }
}
