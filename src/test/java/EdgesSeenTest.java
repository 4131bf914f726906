/** Promises 24 to 26: each sentence of the document that names an edge has a part of its own. */
final class EdgesSeenTest {
    private static final int UNKNOWN = Edges.UNKNOWN, OUTSIDE = Edges.OUTSIDE;
    private static final int FULL = Edges.FULL, NONE = Edges.NONE;
    /** A ring of six dams that let go unlike amounts: what is at the places behind an hour tells each ditch. */
    private static final String RING = "RD91D92D93D94D95D96C010C120C230C340C450C500";

    private EdgesSeenTest() {
    }

    public static void main(String[] args) {
        seeArguments();
        seeFull();
        seePairs();
        seeChangesNothingElse();
        unsee();
        fitArguments();
        fitOfNothingSeen();
        fitOfNone();
        fitOfOne();
        fitOfJustSo();
        fitOfHours();
        fitOfPlacesThatAreNot();
        Check.end("EdgesSeenTest");
    }

    private static void fits(String what, Story story, int many, int inAll, int inNone) {
        story.stays("26 " + what + ": how many", many, x -> x.fit(0));
        story.stays("26 " + what + ": open in all", inAll, x -> x.fit(1));
        story.stays("26 " + what + ": open in none", inNone, x -> x.fit(2));
    }

    // Promise 24: t (0 to 12), k (0 to 99); UNKNOWN; OUTSIDE: t, k.
    private static void seeArguments() {
        Story land = Story.land(Story.FULL_LAND).then(x -> x.see(0, 0, 7));
        for (int place = 0; place < 6; place++) {
            int p = place;
            for (int t : new int[] {0, 1, 11, 12}) {
                for (int k : new int[] {0, 1, 98, 99}) {
                    land.due("24 see(" + p + ", " + t + ", " + k + ")", 2, x -> x.see(p, t, k));
                }
            }
        }
        for (int place : Edges.unknown(6)) {
            land.stays("24 place " + place, UNKNOWN, x -> x.see(place, 0, 0));
            land.stays("24 place " + place, UNKNOWN, x -> x.see(place, 12, 99));
        }
        for (int t : Edges.beyond(0, 12)) {
            land.stays("24 t " + t, OUTSIDE, x -> x.see(0, t, 0));
            land.stays("24 t " + t, OUTSIDE, x -> x.see(5, t, 99));
        }
        for (int k : Edges.beyond(0, 99)) {
            land.stays("24 k " + k, OUTSIDE, x -> x.see(0, 0, k));
            land.stays("24 k " + k, OUTSIDE, x -> x.see(5, 12, k));
            land.stays("24 t and k " + k, OUTSIDE, x -> x.see(5, 13, k));
        }
        Story.begin().stays("24 no places", UNKNOWN, x -> x.see(0, 0, 0));
        Story.land("RTT").stays("24 the first that is not", UNKNOWN, x -> x.see(2, 0, 0));
    }

    // Promise 24: how many there are; FULL: 6.
    private static void seeFull() {
        Story land = Story.land("RD11TC011");
        for (int many = 0; many < 6; many++) {
            Story story = land.times(many, x -> x.see(0, 0, 1));
            story.due("24 seen " + many, many, x -> x.count(10));
            story.due("24 one more than " + many, many + 1, x -> x.see(0, 0, 1));
        }
        Story full = land.times(6, x -> x.see(0, 0, 1));
        full.due("24 six", 6, x -> x.count(10));
        full.stays("24 the seventh", FULL, x -> x.see(0, 0, 1));
        full.stays("24 another seventh", FULL, x -> x.see(1, 12, 99));
        full.times(3, x -> x.see(0, 0, 9)).like("24 none of them is seen", full);
        full.then(x -> x.unsee()).due("24 room again", 1, x -> x.see(0, 0, 1));
        full.then(x -> x.unsee()).times(5, x -> x.see(0, 0, 1)).due("24 for six", 6, x -> x.see(0, 0, 1));
        Story.busy().then(x -> x.land()).stays("24 full behind a new land", FULL, x -> x.see(0, 0, 0));
    }

    // Promise 24: of several the first that it names: UNKNOWN; OUTSIDE; FULL.
    private static void seePairs() {
        Story full = Story.busy();
        for (int place : Edges.unknown(6)) {
            full.stays("24 UNKNOWN ahead of FULL", UNKNOWN, x -> x.see(place, 0, 0));
            for (int t : Edges.beyond(0, 12)) {
                full.stays("24 UNKNOWN ahead of t", UNKNOWN, x -> x.see(place, t, 0));
                full.stays("24 UNKNOWN ahead of t and k", UNKNOWN, x -> x.see(place, t, 100));
            }
            for (int k : Edges.beyond(0, 99)) {
                full.stays("24 UNKNOWN ahead of k", UNKNOWN, x -> x.see(place, 0, k));
            }
        }
        for (int t : Edges.beyond(0, 12)) {
            full.stays("24 t ahead of FULL", OUTSIDE, x -> x.see(0, t, 0));
        }
        for (int k : Edges.beyond(0, 99)) {
            full.stays("24 k ahead of FULL", OUTSIDE, x -> x.see(5, 12, k));
        }
    }

    private static void seeChangesNothingElse() {
        Story land = Story.land(Story.FULL_LAND).then(x -> x.hour(), x -> x.keep(0));
        land.then(x -> x.see(3, 12, 5), x -> x.see(0, 0, 99), x -> x.unsee()).like("24 nothing but what is seen", land);
    }

    // Promise 25: nothing is seen: how many there were.
    private static void unsee() {
        Story.begin().stays("25 none at first", 0, x -> x.unsee());
        Story land = Story.land("RD11TC011");
        for (int many = 0; many <= 6; many++) {
            Story story = land.times(many, x -> x.see(0, 0, 9));
            story.due("25 there were " + many, many, x -> x.unsee());
            story.then(x -> x.unsee()).like("25 as if it never were", land);
            story.then(x -> x.unsee()).stays("25 then none", 0, x -> x.unsee());
        }
        Story.busy().then(x -> x.wipe()).writes("R").then(x -> x.land())
                .due("25 of places that there are not any more", 6, x -> x.unsee());
    }

    // Promise 26: OUTSIDE, also where none fits.
    private static void fitArguments() {
        Story none = Story.land("RD11TC011").then(x -> x.see(0, 0, 9));
        for (Story story : new Story[] {Story.begin(), Story.busy(), none}) {
            for (int what : Edges.beyond(0, 2)) {
                story.stays("26 fit(" + what + ")", OUTSIDE, x -> x.fit(what));
            }
        }
    }

    // Nothing is seen: each turning fits; a ditch is open in some.
    private static void fitOfNothingSeen() {
        fits("R", Story.begin(), 1, 0, 0);
        fits("no ditches", Story.land("RD11"), 1, 0, 0);
        fits("one ditch", Story.land("RD11TC011"), 2, 0, 0);
        fits("six ditches", Story.land(Story.FULL_LAND), 64, 0, 0);
        fits("six ditches behind acts", Story.busy().then(x -> x.unsee()), 64, 0, 0);
    }

    // NONE (of 1, 2): there is none.
    private static void fitOfNone() {
        Story land = Story.land("RD11TC011");
        fits("two that can't both be", land.then(x -> x.see(0, 0, 1), x -> x.see(0, 0, 0)), 0, NONE, NONE);
        fits("what is not so now", land.then(x -> x.see(0, 0, 2)), 0, NONE, NONE);
        fits("what will never be", land.then(x -> x.see(1, 12, 99)), 0, NONE, NONE);
        fits("no ditches, none", Story.land("RD11").then(x -> x.see(0, 12, 0)), 0, NONE, NONE);
        // The last of six is looked at as well as the first.
        fits("the sixth", land.times(5, x -> x.see(0, 0, 1)).then(x -> x.see(0, 0, 0)), 0, NONE, NONE);
        fits("the first", land.then(x -> x.see(0, 0, 0)).times(5, x -> x.see(0, 0, 1)), 0, NONE, NONE);
        fits("six like ones", land.times(6, x -> x.see(0, 0, 1)), 2, 0, 0);
    }

    // Just one turning fits: all ditches are told.
    private static void fitOfOne() {
        int[] rates = {1, 2, 3, 4, 5, 6};
        for (int turning : new int[] {0, 1, 32, 21, 42, 62, 31, 63}) {
            Story story = Story.land(RING);
            for (int place = 0; place < 6; place++) {
                int p = place;
                int ahead = (place + 5) % 6;
                int k = 9 - (turning >> place & 1) * rates[place] + (turning >> ahead & 1) * rates[ahead];
                story = story.then(x -> x.see(p, 1, k));
            }
            fits("turning " + turning, story, 1, turning, 63 - turning);
        }
        // Of no place an end of the ditch is seen: it may be either.
        Story some = Story.land(RING).then(x -> x.see(3, 1, 9));
        fits("ditches 2 and 3 are shut", some, 16, 0, 12);
    }

    // Just k buckets (0 to 99).
    private static void fitOfJustSo() {
        Story full = Story.land("RD99TC010").times(10, x -> x.rain(0, 9));
        fits("99", full.then(x -> x.see(0, 0, 99)), 2, 0, 0);
        fits("98", full.then(x -> x.see(0, 0, 98)), 0, NONE, NONE);
        fits("99 behind 12, shut", full.then(x -> x.see(0, 12, 99)), 1, 0, 1);
        fits("99 in the town behind 11, open", full.then(x -> x.see(1, 11, 99)), 1, 1, 0);
        fits("0 in the town behind 12, shut", full.then(x -> x.see(1, 12, 0)), 1, 0, 1);
        fits("0 in the town now", full.then(x -> x.see(1, 0, 0)), 2, 0, 0);
        fits("1 in the town now", full.then(x -> x.see(1, 0, 1)), 0, NONE, NONE);
        // Dung is no water.
        fits("a stable of 9", Story.land("RS9").then(x -> x.see(0, 0, 0)), 1, 0, 0);
    }

    // Behind t hours (0 to 12) from now on.
    private static void fitOfHours() {
        Story slow = Story.land("RD91TC010").then(x -> x.rain(0, 9));
        for (int t = 0; t <= 12; t++) {
            int hours = t;
            Story story = slow.then(x -> x.see(1, hours, hours));
            fits("behind " + t, story, t == 0 ? 2 : 1, t == 0 ? 0 : 1, 0);
            fits("not one more", slow.then(x -> x.see(1, hours, hours + 1)), 0, NONE, NONE);
        }
        // Hours are looked at in each order in which they were seen.
        fits("12, then 0", slow.then(x -> x.see(1, 12, 12), x -> x.see(1, 0, 0)), 1, 1, 0);
        fits("12, then a wrong 0", slow.then(x -> x.see(1, 12, 12), x -> x.see(1, 0, 1)), 0, NONE, NONE);
        fits("0, then a wrong 12", slow.then(x -> x.see(1, 0, 0), x -> x.see(1, 12, 11)), 0, NONE, NONE);
        // A turning holds from now on, whatever is open now.
        fits("open now is no matter", slow.then(x -> x.turn(0), x -> x.see(1, 12, 0)), 1, 0, 1);
    }

    private static Story nowOn(Story story, String text) {
        return story.then(x -> x.wipe()).writes(text).then(x -> x.land());
    }

    // Of places that there are not any more nothing is looked at.
    private static void fitOfPlacesThatAreNot() {
        Story last = Story.land("RTTTTTT").then(x -> x.see(5, 0, 9));
        fits("place 5 of six", last, 0, NONE, NONE);
        fits("place 5 of five", nowOn(last, "RTTTTT"), 1, 0, 0);
        fits("place 5 of six again", nowOn(nowOn(last, "RTTTTT"), "RTTTTTT"), 0, NONE, NONE);
        fits("place 5, a dam of 9", nowOn(last, "RTTTTTD91"), 1, 0, 0);
        Story first = Story.land("RT").then(x -> x.see(0, 12, 9));
        fits("place 0 of one", first, 0, NONE, NONE);
        fits("place 0 of none", nowOn(first, "R"), 1, 0, 0);
        Story some = Story.land("RTT").then(x -> x.see(1, 3, 9), x -> x.see(0, 0, 0));
        fits("the other ones are looked at", nowOn(some, "RT"), 1, 0, 0);
        fits("and told", nowOn(some, "RD11"), 0, NONE, NONE);
        nowOn(last, "R").due("26 it is still seen", 1, x -> x.count(10));
    }
}
