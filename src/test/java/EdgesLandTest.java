/** Promises 1 to 7: each sentence of the document that names an edge has a part of its own. */
final class EdgesLandTest {
    private static final int UNKNOWN = Edges.UNKNOWN, OUTSIDE = Edges.OUTSIDE, STATE = Edges.STATE;
    private static final int FULL = Edges.FULL, NONE = Edges.NONE;
    private static final String FIGURES = "0123456789";
    private static final String LONGEST = "RD11D11D11D11D11D11C010C020C030C100C120C131";

    private EdgesLandTest() {
    }

    public static void main(String[] args) {
        newObject();
        probeSees();
        writeLetters();
        writeFull();
        wipe();
        faultAtItsEnd();
        faultOfEachLetter();
        faultOfDitchLetters();
        faultOfPlaces();
        faultOfDitches();
        faultIsTheFirst();
        faultChangesNothing();
        landAnswers();
        landOfAFault();
        landAnew();
        placeArguments();
        placeFigures();
        placeWetHour();
        placeLeastDitch();
        ditchArguments();
        ditchFigures();
        fiveHundredAndTwelveCalls();
        Check.end("EdgesLandTest");
    }

    // Promise 1: no places; at first the land is R, nothing is seen, the seed is 0, no slot was kept.
    private static void newObject() {
        Story begin = Story.begin();
        for (int what = 0; what <= 10; what++) {
            int which = what;
            begin.stays("1 count(" + what + ")", 0, x -> x.count(which));
        }
        begin.stays("1 no place", UNKNOWN, x -> x.place(0, 0));
        begin.stays("1 no ditch", UNKNOWN, x -> x.ditch(0, 0));
        begin.stays("1 no act", STATE, x -> x.undo());
        begin.stays("1 slot 0", STATE, x -> x.again(0));
        begin.stays("1 slot 1", STATE, x -> x.again(1));
        begin.stays("1 nothing seen", 0, x -> x.unsee());
        begin.stays("1 the seed", 0, x -> x.seed(0));
        begin.stays("1 the text is empty", 0, x -> x.wipe());
        begin.then(x -> x.write('R')).like("1 the land is R", Story.land("R"));
        begin.due("1 an hour of R", 0, x -> x.hour());
        begin.then(x -> x.hour()).due("1 is an act", 1, x -> x.count(9));
    }

    /** The probe by which all refusals are held must see each thing that can change. */
    private static void probeSees() {
        Story busy = Story.busy();
        busy.like("a story told twice", Story.busy());
        busy.unlike("a letter", busy.then(x -> x.write('T')));
        Story.text("RT").unlike("another letter", Story.text("RX"));
        Story.text("RM1").unlike("another land", Story.text("RM2"));
        busy.unlike("no letters", busy.then(x -> x.wipe()));
        busy.unlike("an hour", busy.then(x -> x.hour()));
        busy.unlike("a turning", busy.then(x -> x.turn(5)));
        busy.unlike("rain", busy.then(x -> x.rain(0, 1)));
        busy.unlike("an undoing", busy.then(x -> x.undo()));
        busy.unlike("an act that is forgotten", busy.then(x -> x.turn(5), x -> x.undo()));
        busy.unlike("slot 0", busy.then(x -> x.keep(0)));
        busy.unlike("slot 1", busy.then(x -> x.keep(1)));
        busy.unlike("the seed", busy.then(x -> x.seed(78)));
        busy.unlike("days", busy.then(x -> x.days(1)));
        busy.unlike("nothing seen", busy.then(x -> x.unsee()));
        Story.land("RD11").then(x -> x.see(0, 0, 1)).unlike("what was seen",
                Story.land("RD11").then(x -> x.see(0, 0, 2)));
    }

    // Promise 2: a letter (0 to 255); OUTSIDE.
    private static void writeLetters() {
        Story busy = Story.busy();
        busy.due("2 write(0)", 39, x -> x.write(0));
        busy.due("2 write(255)", 39, x -> x.write(255));
        for (int letter : Edges.beyond(0, 255)) {
            busy.stays("2 write(" + letter + ")", OUTSIDE, x -> x.write(letter));
            Story.begin().stays("2 write(" + letter + ") at first", OUTSIDE, x -> x.write(letter));
        }
        // Letters that would be an R if but eight bits of them were looked at.
        for (int letter : new int[] {'R' + 256, 'R' - 256, 'R' + 65536}) {
            Story.begin().stays("2 write(" + letter + ")", OUTSIDE, x -> x.write(letter));
        }
        for (int letter = 0; letter <= 255; letter++) {
            int one = letter;
            Story.begin().due("2 write(" + letter + ")", 1, x -> x.write(one));
        }
    }

    // Promise 2: FULL: there are 48.
    private static void writeFull() {
        Story almost = Story.begin().times(47, x -> x.write('R'));
        almost.due("2 there are 47", 47, x -> x.count(0));
        almost.due("2 the 48th", 48, x -> x.write('R'));
        Story full = almost.then(x -> x.write('R'));
        full.due("2 there are 48", 48, x -> x.count(0));
        full.stays("2 the 49th", FULL, x -> x.write('R'));
        full.stays("2 the 49th, letter 0", FULL, x -> x.write(0));
        full.stays("2 the 49th, letter 255", FULL, x -> x.write(255));
        for (int letter : Edges.beyond(0, 255)) {
            full.stays("2 OUTSIDE ahead of FULL, " + letter, OUTSIDE, x -> x.write(letter));
        }
        full.due("2 a full text has a fault", 1, x -> x.fault());
        full.then(x -> x.wipe()).due("2 there is room again", 1, x -> x.write('R'));
        full.then(x -> x.wipe()).times(47, x -> x.write(7)).due("2 for 48 again", 48, x -> x.write(7));
    }

    // Promise 3: the text is empty: how long it was.
    private static void wipe() {
        Story.begin().stays("3 no letters", 0, x -> x.wipe());
        Story.text("R").due("3 one", 1, x -> x.wipe());
        Story full = Story.begin().times(48, x -> x.write('T'));
        full.due("3 of 48", 48, x -> x.wipe());
        full.then(x -> x.wipe()).stays("3 then none", 0, x -> x.wipe());
        full.then(x -> x.wipe()).due("3 none are counted", 0, x -> x.count(0));
        full.then(x -> x.wipe()).due("3 fault of none", 0, x -> x.fault());
        full.then(x -> x.wipe()).due("3 none is no land", STATE, x -> x.land());
        // The land, the row, the slots, what is seen and the seed are no part of the text.
        Story.busy().then(x -> x.wipe()).writes(Story.FULL_LAND).like("3 nothing but the text", Story.busy());
    }

    private static void faultOf(String text, int want) {
        Story.text(text).due("4 fault of " + text, want, x -> x.fault());
    }

    // Promise 4: its length, if it is only not at its end; NONE.
    private static void faultAtItsEnd() {
        for (String text : new String[] {"", "RD", "RD0", "RS", "RM", "RD11TC", "RD11TC0", "RD11TC01"}) {
            faultOf(text, text.length());
        }
        for (String text : new String[] {"R", "RT", "RD01", "RS0", "RM1", "RD11TC010", "RD11TC011", LONGEST}) {
            faultOf(text, NONE);
        }
        // Set aside how long it is: 43 letters are the longest land, so no land is cut off by 48.
        Check.due("4 the longest land", LONGEST.length(), 43);
        faultOf(LONGEST.substring(0, 42), 42);
        faultOf(LONGEST + "TTTTT", 43);
    }

    /** Of all letters behind the text just these are no fault. */
    private static void takes(String text, String letters) {
        for (int letter = 0; letter <= 255; letter++) {
            int one = letter;
            Story story = Story.text(text).then(x -> x.write(one));
            boolean refused = story.made().fault() == text.length();
            // A text that may go on is no fault there; if it is not at its end, its length is told.
            Check.isTrue("4 letter " + letter + " behind " + text, refused == (letters.indexOf(letter) < 0));
        }
    }

    // Promise 4: the figures of each part.
    private static void faultOfEachLetter() {
        takes("", "R");
        takes("R", "DSMT");
        takes("RD", FIGURES);
        takes("RD0", "123456789");
        takes("RD9", "123456789");
        takes("RS", FIGURES);
        takes("RM", "123456789");
        takes("RD11", "DSMT");
        takes("RS0", "DSMT");
        takes("RM1", "DSMT");
        takes("RT", "DSMT");
    }

    // Promise 4: a ditch from a dam or a stable; unlike, both told ahead; no two from one to the same other one.
    private static void faultOfDitchLetters() {
        takes("RTT", "DSMT");
        takes("RM1T", "DSMT");
        takes("RTM1", "DSMT");
        takes("RD11T", "DSMTC");
        takes("RTS1", "DSMTC");
        takes("RD11TC", "0");
        takes("RTD11C", "1");
        takes("RS0M1C", "0");
        takes("RD11TC0", "1");
        takes("RTD11C1", "0");
        takes("RD11TC01", "01");
        takes("RD11TC010", "DSMT");
        takes("RD11TC011T", "DSMTC");
        takes("RD11TC010TC", "0");
        takes("RD11TC010TC0", "2");
        takes("RD11S1M1TD11S1C", "0145");
        takes("RD11S1M1TD11S1C0", "12345");
        takes("RD11S1M1TD11S1C1", "02345");
        takes("RD11S1M1TD11S1C4", "01235");
        takes("RD11S1M1TD11S1C5", "01234");
        // The way back is another ditch.
        takes("RD11S1C010", "DSMTC");
        takes("RD11S1C010C", "1");
        takes("RD11S1C010C1", "0");
        takes("RD11S1C010C100", "DSMT");
    }

    // Promise 4: places, 6 at most.
    private static void faultOfPlaces() {
        takes("RTTTTT", "DSMT");
        takes("RTTTTTT", "");
        takes("RD11TTTTT", "C");
        takes("RTTTTTS1C", "5");
        takes("RTTTTTS1C5", "01234");
        takes("RD11TTTTTC010C020C030C040", "C");
        takes("RD11TTTTTC010C020C030C040C0", "5");
        takes("RD11TTTTTC010C020C030C040C050", "");
    }

    // Promise 4: ditches, 6 at most.
    private static void faultOfDitches() {
        String five = "RD11S1S1C010C020C100C120C200";
        takes(five, "DSMTC");
        takes(five + "C", "2");
        takes(five + "C2", "1");
        takes(five + "C210", "DSMT");
        // There would be ways enough for a seventh.
        String ways = "RD11S1S1TC010C020C030C100C120";
        takes(ways, "DSMTC");
        takes(ways + "C130", "DSMT");
        takes(ways + "C130TT", "");
        takes(LONGEST, "");
    }

    // Promise 4: the place of the first letter by which it can be no land, whatever came behind it.
    private static void faultIsTheFirst() {
        faultOf("X", 0);
        faultOf("XR", 0);
        faultOf("TR", 0);
        faultOf("r", 0);
        faultOf("RXX", 1);
        faultOf("RXT", 1);
        faultOf("RD10T", 3);
        faultOf("RTTTTTTTX", 7);
        faultOf("RTCT", 2);
        faultOf("RTC010", 2);
        faultOf("RTD11C010", 6);
        faultOf("RD11TC012C", 8);
        Story.begin().times(47, x -> x.write('R')).then(x -> x.write('X')).due("4 of 48", 1, x -> x.fault());
        Story.begin().times(48, x -> x.write(0)).due("4 of 48 letters 0", 0, x -> x.fault());
        Story.begin().times(48, x -> x.write(255)).due("4 of 48 letters 255", 0, x -> x.fault());
    }

    private static void faultChangesNothing() {
        Story.busy().stays("4 nothing changes", NONE, x -> x.fault());
        Story.busy().then(x -> x.wipe()).stays("4 nor by a text of none", 0, x -> x.fault());
        Story.busy().then(x -> x.wipe()).writes("RTT").stays("4 nor by another land", NONE, x -> x.fault());
        Story.busy().then(x -> x.wipe()).writes("RD11TC019").stays("4 nor by a fault", 8, x -> x.fault());
    }

    // Promise 5: 10 times places, and ditches.
    private static void landAnswers() {
        Story.text("R").due("5 R alone", 0, x -> x.land());
        Story.text("RT").due("5 one place", 10, x -> x.land());
        Story.text("RTTTTTT").due("5 six places", 60, x -> x.land());
        Story.text("RD11S1S1C010C020C100C120C200C210").due("5 six ditches", 36, x -> x.land());
        Story.text(LONGEST).due("5 six and six", 66, x -> x.land());
        // Each is numbered for itself, as it is told.
        Story mixed = Story.land("RD11TC010S3C021");
        mixed.due("5 the place behind a ditch", 3, x -> x.place(2, 2));
        mixed.due("5 the ditch behind it", 2, x -> x.ditch(1, 1));
        mixed.due("5 is open", 2, x -> x.count(4));
    }

    // Promise 5: STATE: a fault.
    private static void landOfAFault() {
        Story.begin().stays("5 no letters", STATE, x -> x.land());
        Story empty = Story.busy().then(x -> x.wipe());
        empty.stays("5 no letters any more", STATE, x -> x.land());
        for (String text : new String[] {"X", "RX", "RD", "RTTTTTTT", "RD11TC01", "RD11TC019", "RTC"}) {
            empty.writes(text).stays("5 land of " + text, STATE, x -> x.land());
        }
        Story.land("RD11TC011").then(x -> x.write('X')).stays("5 a letter too many", STATE, x -> x.land());
        Story.begin().times(48, x -> x.write('R')).stays("5 of 48", STATE, x -> x.land());
    }

    // Promise 5: the row is empty, what was kept is gone; what is seen, the seed stay. All is as told again.
    private static void landAnew() {
        Story anew = Story.busy().then(x -> x.land());
        anew.like("5 made anew", Story.land(Story.FULL_LAND)
                .then(x -> x.see(0, 0, 1), x -> x.see(1, 1, 1), x -> x.see(2, 0, 14), x -> x.see(3, 12, 6))
                .then(x -> x.see(4, 1, 3), x -> x.see(5, 1, 2), x -> x.seed(77)));
        anew.due("5 the hour", 0, x -> x.count(3));
        anew.due("5 no act", 0, x -> x.count(9));
        anew.due("5 nothing to undo", STATE, x -> x.undo());
        anew.due("5 slot 0 is gone", STATE, x -> x.again(0));
        anew.due("5 slot 1 is gone", STATE, x -> x.again(1));
        anew.due("5 six are seen", 6, x -> x.count(10));
        anew.due("5 the seed", 77, x -> x.seed(0));
        anew.due("5 the text", 38, x -> x.count(0));
        anew.due("5 no town was wet", NONE, x -> x.place(3, 4));
        for (int place : new int[] {1, 2, 3, 5}) {
            anew.due("5 no buckets at " + place, 0, x -> x.place(place, 1));
        }
        Story bare = Story.busy().then(x -> x.wipe()).writes("R").then(x -> x.land());
        bare.due("5 R has no places", UNKNOWN, x -> x.place(0, 0));
        bare.due("5 R has no ditches", UNKNOWN, x -> x.ditch(0, 0));
        bare.due("5 R has no buckets", 0, x -> x.count(6));
        bare.due("5 R has no wet town", 0, x -> x.count(7));
        bare.due("5 R has no open ditch", 0, x -> x.count(4));
        bare.due("5 R is clean and dry", 1, x -> x.by(0, 12, 3));
        // Nothing of another text is left, of one that was the land or of one that was only looked at.
        String less = "RD31TC010";
        for (String more : new String[] {"RD99S9D99S9D99S9C011C101C231C321C451C541", "RD31TS9D99C011C311", "RD31TC011"}) {
            Story looked = Story.text(more).then(x -> x.fault(), x -> x.wipe()).writes(less).then(x -> x.land());
            looked.like("5 of a text that was looked at", Story.land(less));
            Story twice = Story.land(more).then(x -> x.wipe()).writes("R").then(x -> x.land(), x -> x.wipe())
                    .writes(less).then(x -> x.land());
            twice.like("5 of a land two lands ago", Story.land(less));
            Story.land(more).then(x -> x.wipe()).writes(less).then(x -> x.land()).like("5 of the last land", Story.land(less));
        }
        // A slot kept behind the new land is kept.
        anew.then(x -> x.keep(1)).due("5 kept anew", 0, x -> x.again(1));
        anew.then(x -> x.keep(1)).due("5 the other one is not", STATE, x -> x.again(0));
    }

    // Promise 6: UNKNOWN; OUTSIDE.
    private static void placeArguments() {
        Story busy = Story.busy();
        for (int place : Edges.unknown(6)) {
            busy.stays("6 place(" + place + ", 0)", UNKNOWN, x -> x.place(place, 0));
            busy.stays("6 place(" + place + ", 5)", UNKNOWN, x -> x.place(place, 5));
            for (int what : Edges.beyond(0, 5)) {
                busy.stays("6 UNKNOWN ahead of OUTSIDE", UNKNOWN, x -> x.place(place, what));
            }
        }
        for (int what : Edges.beyond(0, 5)) {
            busy.stays("6 place(0, " + what + ")", OUTSIDE, x -> x.place(0, what));
            busy.stays("6 place(5, " + what + ")", OUTSIDE, x -> x.place(5, what));
        }
        for (int many = 0; many <= 5; many++) {
            Story story = Story.land("RTTTTT".substring(0, 1 + many));
            int first = many;
            story.stays("6 the first that is not of " + many, UNKNOWN, x -> x.place(first, 0));
            if (many > 0) {
                story.stays("6 the last of " + many, 3, x -> x.place(first - 1, 0));
            }
        }
    }

    // Promise 6: what it lets go or is worth (0: neither); the figures of each part.
    private static void placeFigures() {
        int[][] least = {{0, 0, 0, 1, NONE, NONE}, {1, 0, 0, 0, NONE, NONE}, {2, 0, 0, 1, NONE, NONE}, {3, 0, 0, 0, NONE, NONE}};
        int[][] most = {{0, 9, 0, 9, NONE, NONE}, {1, 0, 9, 0, NONE, NONE}, {2, 0, 0, 9, NONE, NONE}, {3, 0, 0, 0, NONE, NONE}};
        for (int place = 0; place < 4; place++) {
            for (int what = 0; what <= 5; what++) {
                int p = place;
                int w = what;
                Story.land("RD01S0M1T").stays("6 least", least[p][w], x -> x.place(p, w));
                Story.land("RD99S9M9T").stays("6 most", most[p][w], x -> x.place(p, w));
            }
        }
    }

    // Promise 6: the hour at which it was wet; NONE. The first one is kept.
    private static void placeWetHour() {
        Story town = Story.land("RD92TC011");
        town.due("6 not yet", NONE, x -> x.place(1, 4));
        town.times(1, x -> x.hour()).due("6 at hour 1", 1, x -> x.place(1, 4));
        town.times(9, x -> x.hour()).due("6 the first one is kept", 1, x -> x.place(1, 4));
        town.times(1, x -> x.hour()).due("6 of a dam", NONE, x -> x.place(0, 4));
        Story later = town.then(x -> x.turn(0)).times(100, x -> x.hour()).then(x -> x.turn(0));
        later.due("6 still not", NONE, x -> x.place(1, 4));
        later.then(x -> x.hour()).due("6 at hour 101", 101, x -> x.place(1, 4));
        town.then(x -> x.hour(), x -> x.undo()).due("6 undone", NONE, x -> x.place(1, 4));
        Story.land("RD01TC011").then(x -> x.hour()).due("6 by no buckets", NONE, x -> x.place(1, 4));
        Story.land("RD11TC011").then(x -> x.hour()).due("6 by one bucket", 1, x -> x.place(1, 4));
    }

    // Promise 6: its least ditch that is open; NONE.
    private static void placeLeastDitch() {
        Story.land("RD11").due("6 no ditch", NONE, x -> x.place(0, 5));
        Story.land("RD11TC010").due("6 none is open", NONE, x -> x.place(0, 5));
        Story.land("RD11TC011").due("6 ditch 0", 0, x -> x.place(0, 5));
        Story.land("RD11TC011").due("6 a ditch to it is none of it", NONE, x -> x.place(1, 5));
        Story last = Story.land("RD11S1S1S1C010C020C030C120C130C201");
        last.due("6 ditch 5", 5, x -> x.place(2, 5));
        last.due("6 of another none", NONE, x -> x.place(1, 5));
        last.then(x -> x.turn(5)).due("6 not any more", NONE, x -> x.place(2, 5));
        last.then(x -> x.turn(2), x -> x.turn(1)).due("6 of two the least", 1, x -> x.place(0, 5));
    }

    // Promise 7: UNKNOWN; OUTSIDE.
    private static void ditchArguments() {
        Story busy = Story.busy();
        for (int ditch : Edges.unknown(6)) {
            busy.stays("7 ditch(" + ditch + ", 0)", UNKNOWN, x -> x.ditch(ditch, 0));
            busy.stays("7 ditch(" + ditch + ", 2)", UNKNOWN, x -> x.ditch(ditch, 2));
            for (int what : Edges.beyond(0, 2)) {
                busy.stays("7 UNKNOWN ahead of OUTSIDE", UNKNOWN, x -> x.ditch(ditch, what));
            }
        }
        for (int what : Edges.beyond(0, 2)) {
            busy.stays("7 ditch(0, " + what + ")", OUTSIDE, x -> x.ditch(0, what));
            busy.stays("7 ditch(5, " + what + ")", OUTSIDE, x -> x.ditch(5, what));
        }
        String land = "RD11TTTTT";
        for (int many = 0; many <= 5; many++) {
            Story story = Story.land(land);
            int first = many;
            story.stays("7 the first that is not of " + many, UNKNOWN, x -> x.ditch(first, 0));
            if (many > 0) {
                story.stays("7 the last of " + many, many, x -> x.ditch(first - 1, 1));
            }
            land = land + "C0" + (many + 1) + "0";
        }
    }

    // Promise 7: from where, where to, 1 if it is open, 0.
    private static void ditchFigures() {
        Story story = Story.land("RD11S1TTTS1C050C501C510C150C141C041");
        int[][] wants = {{0, 5, 0}, {5, 0, 1}, {5, 1, 0}, {1, 5, 0}, {1, 4, 1}, {0, 4, 1}};
        for (int ditch = 0; ditch < 6; ditch++) {
            for (int what = 0; what <= 2; what++) {
                int d = ditch;
                int w = what;
                story.stays("7 ditch(" + d + ", " + w + ")", wants[d][w], x -> x.ditch(d, w));
            }
            int d = ditch;
            story.then(x -> x.turn(d)).due("7 turned " + d, 1 - wants[d][2], x -> x.ditch(d, 2));
            story.then(x -> x.turn(d), x -> x.turn(d)).due("7 turned back " + d, wants[d][2], x -> x.ditch(d, 2));
        }
    }

    // An object is used for at most 512 calls: up to the last one all is as told.
    private static void fiveHundredAndTwelveCalls() {
        Story.begin().times(511, x -> x.hour()).due("the 512th call", 511, x -> x.count(3));
        Story.begin().times(511, x -> x.hour()).due("the row then", 13, x -> x.undo());
        Story.land("RD11TC010").times(501, x -> x.turn(0)).due("ditches turned often", 1, x -> x.count(4));
    }
}
