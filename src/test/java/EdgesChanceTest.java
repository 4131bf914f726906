/** Promises 21 to 23: each sentence of the document that names an edge has a part of its own. */
final class EdgesChanceTest {
    private static final int UNKNOWN = Edges.UNKNOWN, OUTSIDE = Edges.OUTSIDE, STATE = Edges.STATE;
    private static final String FIVE_DAMS_OF_NONE = "D01D01D01D01D01", TO_PLACE_5 = "C051C151C251C351C451";

    private EdgesChanceTest() {
    }

    public static void main(String[] args) {
        shareArguments();
        sharePairs();
        shareOfNothing();
        shareOfOneDam();
        shareOfFiveDams();
        shareOfDamsThatHaveNotCome();
        sharesTogether();
        tenths("22 chance", (x, tenths, h, upper) -> x.chance(tenths, h, upper));
        tenths("23 mean", (x, tenths, h, upper) -> x.mean(tenths, h, upper));
        chanceOfNoDams();
        chanceOfOneDam();
        chanceOfFiveDams();
        chanceOfAFullDam();
        meanOfNothing();
        meanOfDams();
        Check.end("EdgesChanceTest");
    }

    private interface Fraction {
        int ask(StableRivers x, boolean upper);
    }

    /** Above and below, in least terms; nothing is changed by either. */
    private static void told(String what, Story story, int above, int below, Fraction call) {
        story.stays(what + ", above", above, x -> call.ask(x, true));
        story.stays(what + ", below", below, x -> call.ask(x, false));
    }

    private static void share(String what, Story story, int place, int h, int above, int below) {
        told("21 " + what, story, above, below, (x, upper) -> x.share(place, h, upper));
    }

    private static void chance(String what, Story story, int tenths, int h, int above, int below) {
        told("22 " + what, story, above, below, (x, upper) -> x.chance(tenths, h, upper));
    }

    private static void mean(String what, Story story, int tenths, int h, int above, int below) {
        told("23 " + what, story, above, below, (x, upper) -> x.mean(tenths, h, upper));
    }

    // Promise 21: UNKNOWN; OUTSIDE: h; STATE: it is no dam; refusals are told likewise, above and below.
    private static void shareArguments() {
        Story busy = Story.busy();
        for (int place : Edges.unknown(6)) {
            share("place " + place, busy, place, 0, UNKNOWN, UNKNOWN);
            share("place " + place, busy, place, 12, UNKNOWN, UNKNOWN);
        }
        for (int h : Edges.beyond(0, 12)) {
            share("h " + h, busy, 0, h, OUTSIDE, OUTSIDE);
            share("h " + h, busy, 4, h, OUTSIDE, OUTSIDE);
        }
        for (int place : new int[] {1, 2, 3, 5}) {
            share("no dam: " + place, busy, place, 0, STATE, STATE);
            share("no dam: " + place, busy, place, 12, STATE, STATE);
        }
        share("no places", Story.begin(), 0, 0, UNKNOWN, UNKNOWN);
        share("one place", Story.land("RD11"), 1, 0, UNKNOWN, UNKNOWN);
        share("the last place", Story.land("RTTTTTD11"), 5, 12, 0, 1);
    }

    // Promise 21: of several the first that it names.
    private static void sharePairs() {
        Story busy = Story.busy();
        for (int h : Edges.beyond(0, 12)) {
            for (int place : Edges.unknown(6)) {
                share("UNKNOWN ahead of OUTSIDE", busy, place, h, UNKNOWN, UNKNOWN);
            }
            for (int place : new int[] {1, 2, 3, 5}) {
                share("OUTSIDE ahead of STATE", busy, place, h, OUTSIDE, OUTSIDE);
            }
        }
    }

    // Nothing is told as 0 above 1.
    private static void shareOfNothing() {
        share("no stables", Story.land("RD99TC011"), 0, 12, 0, 1);
        share("no ditches", Story.land("RD99S9"), 0, 12, 0, 1);
        share("a shut ditch", Story.land("RD99S9C010"), 0, 12, 0, 1);
        share("no buckets", Story.land("RD09S9C011"), 0, 12, 0, 1);
        share("no dung", Story.land("RD99S0C011"), 0, 12, 0, 1);
        share("no hours", Story.land("RD99S9C011"), 0, 0, 0, 1);
        share("all is clean in a busy land", Story.busy(), 0, 12, 0, 1);
        Story six = Story.land("RD99D99D99D99D99D99C011C121C231C341C451C501");
        for (int place = 0; place < 6; place++) {
            share("six dams in a ring", six, place, 12, 0, 1);
        }
    }

    // One dam comes alone, in the one order there is.
    private static void shareOfOneDam() {
        Story slow = Story.land("RD91S9C011");
        for (int h = 0; h <= 12; h++) {
            share("alone, behind " + h, slow, 0, h, Math.min(h, 9), 1);
        }
        Story five = Story.land("RD99S9S9S9S9S9C011C121C231C341C451");
        share("all dung together", five, 0, 12, 45, 1);
    }

    // In each order as likely: five dams have 120.
    private static void shareOfFiveDams() {
        for (int dung = 1; dung <= 4; dung++) {
            Story story = Story.land("RD19D19D19D19D19S" + dung + TO_PLACE_5);
            for (int place = 0; place < 5; place++) {
                share("a fifth of " + dung, story, place, 1, dung, 5);
            }
        }
        share("a fifth of 5", Story.land("RD19D19D19D19D19S5" + TO_PLACE_5), 4, 1, 1, 1);
        share("nine by any", Story.land("RD99D99D99D99D99S9" + TO_PLACE_5), 0, 1, 9, 5);
        // One of 9 and four of 1, to 9 dung: the great one adds 9 less those that came ahead, 2 in the mean;
        // a small one adds 1 if it came ahead of the great one, by a half.
        Story unlike = Story.land("RD19D19D99D19D19S9" + TO_PLACE_5);
        share("the great one", unlike, 2, 1, 7, 1);
        share("a small one", unlike, 4, 1, 1, 2);
    }

    // Those that have not come let nothing go, but water comes to them.
    private static void shareOfDamsThatHaveNotCome() {
        Story row = Story.land("RD19D09D09S1C011C121C231");
        for (int place = 0; place < 3; place++) {
            share("the last of three to come adds it", row, place, 3, 1, 3);
            share("too early", row, place, 2, 0, 1);
        }
        // Stables do not come: they let go as ever. Two buckets wait at place 0, one more comes behind an hour.
        Story stable = Story.land("RS0S9D91C010C201").then(x -> x.hour(), x -> x.hour(), x -> x.turn(0));
        share("a stable's water is not the dam's", stable, 2, 1, 0, 1);
        share("the dam's own bucket", stable, 2, 2, 1, 1);
    }

    // What all dams add, together, is what is washed when all have come.
    private static void sharesTogether() {
        String[] lands = {"RD32D21D54S9C031C131C231", "RD91D92D93S7S9C031C131C241C341", "RD99D11S5S4C021C131C231",
            "RD12D23D34D45S9S9C041C141C251C351C451"};
        for (String land : lands) {
            for (int h = 0; h <= 12; h++) {
                StableRivers x = Story.land(land).made();
                int parts = 0;
                for (int place = 0; place < x.count(1); place++) {
                    if (x.place(place, 0) == 0) {
                        // No more than four dams: 24 orders.
                        Check.due("21 in least terms", 24 % x.share(place, h, false), 0);
                        parts += 24 / x.share(place, h, false) * x.share(place, h, true);
                    }
                }
                Check.due("21 all shares of " + land + " behind " + h, parts, 24 * (x.count(5) - x.by(x.count(4), h, 0)));
            }
        }
    }

    private interface OfTenths {
        int ask(StableRivers x, int tenths, int h, boolean upper);
    }

    // Promises 22 and 23: x tenths (0 to 10); OUTSIDE: x, h.
    private static void tenths(String what, OfTenths call) {
        for (Story story : new Story[] {Story.begin(), Story.busy(), Story.land("RD91S9C011")}) {
            for (boolean upper : Edges.BOTH) {
                for (int tenths : Edges.beyond(0, 10)) {
                    story.stays(what + " by " + tenths, OUTSIDE, x -> call.ask(x, tenths, 0, upper));
                    story.stays(what + " by " + tenths, OUTSIDE, x -> call.ask(x, tenths, 12, upper));
                    story.stays(what + ", both are", OUTSIDE, x -> call.ask(x, tenths, 13, upper));
                }
                for (int h : Edges.beyond(0, 12)) {
                    story.stays(what + " behind " + h, OUTSIDE, x -> call.ask(x, 0, h, upper));
                    story.stays(what + " behind " + h, OUTSIDE, x -> call.ask(x, 10, h, upper));
                }
                for (int tenths = 0; tenths <= 10; tenths++) {
                    int some = tenths;
                    int behind12 = call.ask(story.made(), tenths, 12, upper);
                    Check.isTrue(what + " takes " + tenths, behind12 >= (upper ? 0 : 1));
                    story.stays(what + " by " + tenths + ", nothing changes", behind12, x -> call.ask(x, some, 12, upper));
                }
            }
        }
    }

    // Promise 22: without dams there is one way; never is 0 above 1, always 1 above 1.
    private static void chanceOfNoDams() {
        for (int tenths = 0; tenths <= 10; tenths++) {
            chance("R", Story.begin(), tenths, 0, 1, 1);
            chance("R behind 12", Story.begin(), tenths, 12, 1, 1);
            chance("clean", Story.land("RS0T"), tenths, 12, 1, 1);
            chance("never clean", Story.land("RS1T"), tenths, 12, 0, 1);
            chance("a wet town", Story.busy(), tenths, 12, 0, 1);
            chance("no rain on a stable", Story.land("RS0TC011"), tenths, 12, 1, 1);
            chance("no rain on the last place", Story.land("RTD01M1TTS0C501"), tenths, 12, 1, 1);
            chance("six dams", Story.land("RD99D99D99D99D99D99"), tenths, 12, 1, 1);
        }
    }

    // Promise 22: by x tenths, 0 to 10, in least terms; a bucket more now.
    private static void chanceOfOneDam() {
        Story one = Story.land("RD01S1C011");
        int[][] clean = {{0, 1}, {1, 10}, {1, 5}, {3, 10}, {2, 5}, {1, 2}, {3, 5}, {7, 10}, {4, 5}, {9, 10}, {1, 1}};
        Story town = Story.land("RD01TC011");
        for (int tenths = 0; tenths <= 10; tenths++) {
            chance("clean by rain", one, tenths, 1, clean[tenths][0], clean[tenths][1]);
            chance("clean by rain behind 12", one, tenths, 12, clean[tenths][0], clean[tenths][1]);
            chance("not behind 0", one, tenths, 0, 0, 1);
            chance("dry by no rain", town, tenths, 1, clean[10 - tenths][0], clean[10 - tenths][1]);
            chance("dry behind 0", town, tenths, 0, 1, 1);
            chance("one bucket, no more", Story.land("RD01S2C011"), tenths, 12, 0, 1);
            chance("ditches as they are", Story.land("RD01S1C010"), tenths, 12, 0, 1);
        }
    }

    // Promise 22: each dam by itself: five to the fifth.
    private static void chanceOfFiveDams() {
        Story all = Story.land("R" + FIVE_DAMS_OF_NONE + "S5" + TO_PLACE_5);
        chance("all five by 0", all, 0, 1, 0, 1);
        chance("all five by 1", all, 1, 1, 1, 100000);
        chance("all five by 2", all, 2, 1, 1, 3125);
        chance("all five by 5", all, 5, 1, 1, 32);
        chance("all five by 9", all, 9, 1, 59049, 100000);
        chance("all five by 10", all, 10, 1, 1, 1);
        Story none = Story.land("R" + FIVE_DAMS_OF_NONE + "T" + TO_PLACE_5);
        chance("none of five by 0", none, 0, 1, 1, 1);
        chance("none of five by 1", none, 1, 1, 59049, 100000);
        chance("none of five by 10", none, 10, 1, 0, 1);
        Story some = Story.land("R" + FIVE_DAMS_OF_NONE + "S4" + TO_PLACE_5);
        // Four or five of five, by halves: 6 of 32.
        chance("four or five by 5", some, 5, 1, 3, 16);
    }

    // A dam of 99 is still one of 99 when it has been asked.
    private static void chanceOfAFullDam() {
        Story full = Story.land("RD99S9C011").times(10, x -> x.rain(0, 9));
        chance("of 99", full, 10, 12, 1, 1);
        chance("of 99 behind 0", full, 10, 0, 0, 1);
        mean("of 99", full, 10, 12, 0, 1);
        mean("of 99 behind 0", full, 10, 0, 9, 1);
        full.then(x -> x.chance(10, 12, true)).due("22 of 99 still", 99, x -> x.place(0, 1));
    }

    // Promise 23: of all dung that is left then.
    private static void meanOfNothing() {
        for (int tenths = 0; tenths <= 10; tenths++) {
            mean("R", Story.begin(), tenths, 12, 0, 1);
            mean("no dams", Story.land("RS9S9S9S9S9S9"), tenths, 12, 54, 1);
            mean("no rain on a stable", Story.land("RS0S1C011"), tenths, 12, 1, 1);
            mean("no stables", Story.land("RD99TC011"), tenths, 12, 0, 1);
            mean("behind 0", Story.land("RD99S9S8C011"), tenths, 0, 17, 1);
            mean("no ditches", Story.land("RD99S9"), tenths, 12, 9, 1);
            mean("clean, a wet town is no matter", Story.busy(), tenths, 12, 0, 1);
        }
    }

    // Promise 23: a fraction in least terms, by x from 0 to 10.
    private static void meanOfDams() {
        Story all = Story.land("R" + FIVE_DAMS_OF_NONE + "S5" + TO_PLACE_5);
        for (int tenths = 0; tenths <= 10; tenths++) {
            // Each dam brings x tenths of a bucket: 5 - x / 2.
            int halves = 10 - tenths;
            mean("five dams by " + tenths, all, tenths, 1, halves % 2 == 0 ? halves / 2 : halves, halves % 2 == 0 ? 1 : 2);
        }
        Story one = Story.land("RD01S1C011");
        mean("by 1", one, 1, 1, 9, 10);
        mean("by 9", one, 9, 1, 1, 10);
        mean("by 10", one, 10, 1, 0, 1);
        mean("by 10, behind 0", one, 10, 0, 1, 1);
        // No less than none is left: two dams, one dung.
        mean("two dams by 1", Story.land("RD01D01S1C021C121"), 1, 1, 81, 100);
    }
}
