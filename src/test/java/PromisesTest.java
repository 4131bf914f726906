/** A part for each promise of the document: ordinary inputs, edges, wrong inputs. */
final class PromisesTest {
    private static final int UNKNOWN = -1, OUTSIDE = -2, STATE = -3, FULL = -4, NONE = -9;
    private static final int LEAST = Integer.MIN_VALUE, MOST = Integer.MAX_VALUE;

    private PromisesTest() {
    }

    public static void main(String[] args) {
        newObject();
        write();
        wipe();
        fault();
        faultOfDitches();
        land();
        place();
        ditch();
        hour();
        hourAllAtOnce();
        turn();
        rain();
        undo();
        judge();
        behind();
        by();
        once();
        twice();
        richest();
        barred();
        free();
        stuck();
        share();
        chance();
        mean();
        see();
        unsee();
        fit();
        kings();
        seed();
        days();
        keep();
        again();
        count();
        Check.end("PromisesTest");
    }

    private static void due(String what, long got, long want) {
        Check.due(what, got, want);
    }

    /** A refusal must be as told and change nothing. */
    private static void refused(String what, StableRivers x, String ahead, long got, long want) {
        due(what, got, want);
        Check.isTrue(what + " changes nothing", Check.all(x).equals(ahead));
    }

    // Promise 1
    private static void newObject() {
        StableRivers x = new StableRivers();
        for (int what = 0; what <= 10; what++) {
            due("1 count(" + what + ")", x.count(what), 0);
        }
        due("1 place(0, 0)", x.place(0, 0), UNKNOWN);
        due("1 ditch(0, 0)", x.ditch(0, 0), UNKNOWN);
        due("1 the text is empty", x.fault(), 0);
        due("1 the land is R", x.by(0, 12, 3), 1);
        due("1 seed", x.seed(7), 0);
        due("1 nothing is kept", x.again(0), STATE);
    }

    // Promise 2
    private static void write() {
        StableRivers x = new StableRivers();
        due("2 write(0)", x.write(0), 1);
        due("2 write(255)", x.write(255), 2);
        String ahead = Check.all(x);
        refused("2 write(256)", x, ahead, x.write(256), OUTSIDE);
        refused("2 write(-1)", x, ahead, x.write(-1), OUTSIDE);
        for (int i = 3; i <= 48; i++) {
            due("2 write, letter " + i, x.write('R'), i);
        }
        ahead = Check.all(x);
        refused("2 the 49th", x, ahead, x.write('R'), FULL);
        refused("2 OUTSIDE is named ahead of FULL", x, ahead, x.write(256), OUTSIDE);
    }

    // Promise 3
    private static void wipe() {
        StableRivers x = Check.on("RD11T");
        due("3 wipe", x.wipe(), 5);
        due("3 wipe again", x.wipe(), 0);
        due("3 count(0)", x.count(0), 0);
        due("3 the land stays", x.count(1), 2);
        due("3 write then", x.write('R'), 1);
        due("3 nothing of the old text is left", x.fault(), NONE);
    }

    private static void faultOf(String text, int want) {
        due("4 fault of " + text, Check.tell(new StableRivers(), text).fault(), want);
    }

    // Promise 4
    private static void fault() {
        faultOf("", 0);
        faultOf("R", NONE);
        faultOf("r", 0);
        faultOf("T", 0);
        faultOf("RR", 1);
        faultOf("RX", 1);
        faultOf("R0", 1);
        faultOf("RD", 2);
        faultOf("RD0", 3);
        faultOf("RD09", NONE);
        faultOf("RD90", 3);
        faultOf("RDT", 2);
        faultOf("RD:1", 2);
        faultOf("RD/1", 2);
        faultOf("RS", 2);
        faultOf("RS0", NONE);
        faultOf("RS9", NONE);
        faultOf("RS99", 3);
        faultOf("RM", 2);
        faultOf("RM0", 2);
        faultOf("RM1", NONE);
        faultOf("RM9", NONE);
        faultOf("RT", NONE);
        faultOf("RT1", 2);
        faultOf("RTTTTTT", NONE);
        faultOf("RTTTTTTT", 7);
        faultOf("RTTTTTTD", 7);
        faultOf("RTTTTTTS", 7);
        faultOf("RTTTTTTM", 7);
        faultOf("RTTTTTD11", NONE);
        // The length is set aside: these letters could all have gone on, though there is no room for it.
        StringBuilder full = new StringBuilder("RD11TTTTT");
        faultOf(full.toString(), NONE);
        while (full.length() < 48) {
            full.append('T');
        }
        faultOf(full.toString(), 9);
    }

    // Promise 4, ditches
    private static void faultOfDitches() {
        faultOf("RC", 1);
        faultOf("RS1C", 3);
        faultOf("RTTC", 3);
        faultOf("RM1TC", 4);
        faultOf("RS1TC", 5);
        faultOf("RS1TC0", 6);
        faultOf("RS1TC01", 7);
        faultOf("RS1TC010", NONE);
        faultOf("RS1TC011", NONE);
        faultOf("RS1TC012", 7);
        faultOf("RS1TC1", 5);
        faultOf("RS1TC2", 5);
        faultOf("RS1TCx", 5);
        faultOf("RS1TC00", 6);
        faultOf("RS1TC02", 6);
        // Place 0 has a ditch to all others: no more from it, though from place 1.
        faultOf("RS1S1C011C", 10);
        faultOf("RS1S1C011C0", 10);
        faultOf("RS1S1C011C10", 12);
        faultOf("RS1S1C011C100", NONE);
        faultOf("RS1S1C011C100C", 13);
        faultOf("RS1S1TC011C01", 12);
        faultOf("RS1S1TC011C02", 13);
        // A place that comes later can be a ditch's end, but not ahead of it.
        faultOf("RS1C", 3);
        faultOf("RS1TC010TC02", 12);
        faultOf("RS1TC010TC020C", 13);
        // Six ditches, then no more, though there were ways.
        String six = "RD11D11D11D11C010C020C030C100C120C130";
        faultOf(six, NONE);
        faultOf(six + "C", six.length());
        faultOf(six + "TT", NONE);
        // The longest land there is.
        String longest = "RD11D11D11D11D11D11C010C020C030C100C120C131";
        due("4 length of the longest", longest.length(), 43);
        faultOf(longest, NONE);
        faultOf(longest + "T", 43);
    }

    // Promise 5
    private static void land() {
        StableRivers x = Check.on("RD32S4TC011C121");
        due("5 land", x.land(), 32);
        x.hour();
        x.rain(0, 5);
        x.keep(1);
        x.see(2, 3, 4);
        x.seed(99);
        due("5 the text stays", x.count(0), 15);
        due("5 land anew", x.land(), 32);
        due("5 the row is empty", x.undo(), STATE);
        due("5 what was kept is gone", x.again(1), STATE);
        due("5 what is seen stays", x.count(10), 1);
        due("5 the seed stays", x.seed(99), 99);
        due("5 the hour", x.count(3), 0);
        due("5 buckets", x.place(0, 1), 3);
        due("5 buckets of a stable", x.place(1, 1), 0);
        due("5 dung", x.place(1, 2), 4);
        x.hour();
        x.hour();
        x.turn(0);
        due("5 wet", x.count(7), 4);
        due("5 land once more", x.land(), 32);
        due("5 no town was wet", x.place(2, 4), NONE);
        due("5 ditches as told", x.count(4), 3);
        Check.tell(x, "RX");
        String ahead = Check.all(x);
        refused("5 a fault", x, ahead, x.land(), STATE);
        Check.tell(x, "RD");
        ahead = Check.all(x);
        refused("5 not at its end", x, ahead, x.land(), STATE);
        x.wipe();
        due("5 no letters", x.land(), STATE);
        Check.tell(x, "RD11TC011").fault();
        Check.tell(x, "RD11TC010").land();
        due("5 nothing of a text that was only looked at", x.count(4), 0);
        Check.tell(x, "R");
        due("5 land R", x.land(), 0);
        due("5 no places", x.count(1), 0);
        due("5 no dung", x.count(5), 0);
        due("5 no buckets", x.count(6), 0);
    }

    // Promise 6
    private static void place() {
        StableRivers x = Check.on("RD73S5M4TC010C021C031C101");
        int[][] wants = {{0, 7, 0, 3, NONE, 1}, {1, 0, 5, 0, NONE, 3}, {2, 0, 0, 4, NONE, NONE}, {3, 0, 0, 0, NONE, NONE}};
        for (int p = 0; p < 4; p++) {
            for (int what = 0; what <= 5; what++) {
                due("6 place(" + p + ", " + what + ")", x.place(p, what), wants[p][what]);
            }
        }
        x.turn(0);
        due("6 ditch 0", x.place(0, 5), 0);
        x.turn(0);
        x.turn(1);
        due("6 the least open ditch", x.place(0, 5), 2);
        x.turn(2);
        due("6 none is open", x.place(0, 5), NONE);
        x.turn(2);
        x.hour();
        x.hour();
        due("6 wet at", x.place(3, 4), 1);
        due("6 buckets of a town", x.place(3, 1), 6);
        for (int p : new int[] {-1, 4, 6, LEAST, MOST}) {
            due("6 place(" + p + ", 0)", x.place(p, 0), UNKNOWN);
            due("6 UNKNOWN is named first", x.place(p, 9), UNKNOWN);
        }
        for (int what : new int[] {-1, 6, LEAST, MOST}) {
            due("6 place(0, " + what + ")", x.place(0, what), OUTSIDE);
        }
    }

    // Promise 7
    private static void ditch() {
        StableRivers x = Check.on("RD73S5TC010C121");
        int[][] wants = {{0, 1, 0}, {1, 2, 1}};
        for (int d = 0; d < 2; d++) {
            for (int what = 0; what <= 2; what++) {
                due("7 ditch(" + d + ", " + what + ")", x.ditch(d, what), wants[d][what]);
            }
        }
        for (int d : new int[] {-1, 2, 6, LEAST, MOST}) {
            due("7 ditch(" + d + ", 0)", x.ditch(d, 0), UNKNOWN);
            due("7 UNKNOWN is named first", x.ditch(d, 3), UNKNOWN);
        }
        for (int what : new int[] {-1, 3, LEAST, MOST}) {
            due("7 ditch(0, " + what + ")", x.ditch(0, what), OUTSIDE);
        }
    }

    // Promise 8
    private static void hour() {
        StableRivers x = Check.on("RD52S3TC011C120");
        due("8 first hour", x.hour(), 2);
        due("8 the dam lets go no more than it may", x.place(0, 1), 3);
        due("8 second hour", x.hour(), 1);
        due("8 third hour", x.hour(), 0);
        due("8 the dam lets go what it has", x.place(0, 1), 0);
        due("8 none is open: it stays", x.place(1, 1), 5);
        due("8 the town is dry", x.place(2, 4), NONE);
        x.turn(1);
        due("8 fourth hour", x.hour(), 0);
        due("8 a stable lets go all", x.place(1, 1), 0);
        due("8 to the town", x.place(2, 1), 5);
        due("8 which is wet", x.place(2, 4), 4);
        x.hour();
        x.rain(0, 9);
        x.hour();
        x.hour();
        due("8 the first wet hour is kept", x.place(2, 4), 4);
        due("8 the hour", x.count(3), 7);
        StableRivers dry = Check.on("RD01TS4C011C210");
        dry.hour();
        due("8 no buckets come: no town is wet", dry.count(7), 0);
        StableRivers two = Check.on("RD11D11S9C021C121");
        due("8 from two dams", two.hour(), 2);
        StableRivers least = Check.on("RD92TS9C020C011");
        due("8 the least open ditch alone", least.hour(), 0);
        due("8 into the town", least.place(1, 1), 2);
        least.turn(0);
        due("8 now the stable's ditch is the least", least.hour(), 2);
        due("8 no more into the town", least.place(1, 1), 2);
        StableRivers fork = Check.on("RM1D92M1C101C121");
        fork.hour();
        due("8 by the least of two open ones", fork.place(0, 1), 2);
        due("8 by no other", fork.place(2, 1), 0);
        due("8 of all stables", Check.on("RD92S9D93S2C011C231").hour(), 4);
    }

    // Promise 8, all at once
    private static void hourAllAtOnce() {
        StableRivers x = Check.on("RS0S0D31C011C101C201");
        x.hour();
        x.hour();
        due("8 what comes goes on an hour later", x.place(1, 1), 1);
        due("8 and another comes", x.place(0, 1), 1);
        x.hour();
        due("8 they change places", x.place(1, 1), 1);
        due("8 with one more", x.place(0, 1), 2);
        StableRivers dams = Check.on("RD55D99C011C101");
        dams.hour();
        due("8 dam to dam", dams.place(0, 1), 9);
        due("8 and back", dams.place(1, 1), 5);
        // 99 is the most by rain; what streams have brought is not lost.
        StableRivers more = Check.on("RD99D99C011");
        for (int i = 0; i < 10; i++) {
            more.rain(1, 9);
        }
        due("8 by rain", more.place(1, 1), 99);
        more.hour();
        due("8 by a stream", more.place(1, 1), 108);
        due("8 rain is refused then", more.rain(1, 1), STATE);
    }

    // Promise 9
    private static void turn() {
        StableRivers x = Check.on("RD73S5TC010C121");
        due("9 turn(0)", x.turn(0), 1);
        due("9 bits", x.count(4), 3);
        due("9 turn(1)", x.turn(1), 0);
        due("9 bits", x.count(4), 1);
        due("9 turn(0) again", x.turn(0), 0);
        due("9 acts", x.count(9), 3);
        due("9 no hour goes by", x.count(3), 0);
        for (int d : new int[] {-1, 2, 6, 32, LEAST, MOST}) {
            due("9 turn(" + d + ")", x.turn(d), UNKNOWN);
        }
        due("9 what is refused is no act", x.count(9), 3);
    }

    // Promise 10
    private static void rain() {
        StableRivers x = Check.on("RD93S5M1T");
        due("10 rain(0, 1)", x.rain(0, 1), 10);
        due("10 rain(0, 9)", x.rain(0, 9), 19);
        for (int i = 2; i <= 9; i++) {
            due("10 rain on", x.rain(0, 9), 10 + 9 * i);
        }
        due("10 rain(0, 7)", x.rain(0, 7), 98);
        refused("10 would have 100", x, Check.all(x), x.rain(0, 2), STATE);
        due("10 just 99", x.rain(0, 1), 99);
        String ahead = Check.all(x);
        refused("10 more than 99", x, ahead, x.rain(0, 1), STATE);
        for (int p = 1; p < 4; p++) {
            due("10 no dam", x.rain(p, 1), STATE);
        }
        for (int k : new int[] {0, 10, -1, LEAST, MOST}) {
            due("10 rain(0, " + k + ")", x.rain(0, k), OUTSIDE);
            due("10 OUTSIDE ahead of STATE", x.rain(1, k), OUTSIDE);
            due("10 UNKNOWN ahead of OUTSIDE", x.rain(4, k), UNKNOWN);
        }
        for (int p : new int[] {-1, 4, 6, LEAST, MOST}) {
            due("10 rain(" + p + ", 1)", x.rain(p, 1), UNKNOWN);
        }
        refused("10 nothing changes", x, ahead, 0, 0);
    }

    // Promise 11
    private static void undo() {
        StableRivers x = Check.on("RD73S5TC010C121");
        due("11 none", x.undo(), STATE);
        String first = Check.all(x);
        x.turn(0);
        x.hour();
        String third = Check.all(x);
        x.hour();
        due("11 wet", x.count(7), 4);
        x.rain(0, 3);
        due("11 of rain", x.undo(), 3);
        refused("11 of an hour", x, third, x.undo() - 2, 0);
        due("11 of another", x.undo(), 1);
        refused("11 of a turning", x, first, x.undo(), 0);
        StableRivers hours = Check.on("RD73S5TC010C121");
        for (int i = 0; i < 16; i++) {
            hours.hour();
        }
        due("11 14 at most", hours.count(9), 14);
        for (int left = 13; left >= 0; left--) {
            due("11 left", hours.undo(), left);
            due("11 hour", hours.count(3), left + 2);
        }
        due("11 the first two are forgotten", hours.undo(), STATE);
    }

    // Promise 12
    private static void judge() {
        StableRivers x = Check.on("RD73S5TC010C120");
        String ahead = Check.all(x);
        refused("12 no water goes", x, ahead, x.judge(8, 66666666), NONE);
        due("12 0, 1, 6, 6: wet by the second hour", x.judge(4, 166), 3);
        due("12 0, 1, 6: not wet yet", x.judge(3, 16), NONE);
        due("12 0, 0, 1, 6, 6: the dam stays shut", x.judge(5, 166), NONE);
        due("12 the first figure is the first step", x.judge(4, 6610), NONE);
        due("12 a single 0 is a step", x.judge(1, 0), NONE);
        due("12 a ditch that is not", x.judge(3, 662), 2);
        due("12 7 is nothing", x.judge(2, 67), 1);
        due("12 9 is nothing", x.judge(1, 9), 0);
        due("12 the first of several", x.judge(3, 299), 0);
        for (int n : new int[] {0, 9, -1, LEAST, MOST}) {
            due("12 judge(" + n + ", 0)", x.judge(n, 0), OUTSIDE);
        }
        due("12 two figures of one", x.judge(1, 10), OUTSIDE);
        due("12 one figure too many", x.judge(8, 100000000), OUTSIDE);
        due("12 below 0", x.judge(3, -1), OUTSIDE);
        due("12 far below", x.judge(3, LEAST), OUTSIDE);
        due("12 far above", x.judge(8, MOST), OUTSIDE);
        due("12 eight figures", x.judge(8, 99999999), 0);
        refused("12 nothing changes", x, ahead, 0, 0);
        StableRivers wet = Check.on("RD91TTD91C011C320");
        wet.hour();
        due("12 a town that was wet ahead", wet.judge(2, 66), NONE);
        due("12 another one", wet.judge(3, 616), 2);
    }

    // Promise 13
    private static void behind() {
        StableRivers x = Check.on("RD73S5TC011C121");
        String ahead = Check.all(x);
        int[] dam = {7, 4, 1, 0, 0};
        int[] stable = {0, 3, 3, 1, 0};
        int[] dung = {5, 2, 0, 0, 0};
        int[] town = {0, 0, 3, 6, 7};
        for (int h = 0; h < 5; h++) {
            due("13 dam behind " + h, x.behind(0, h, 0), dam[h]);
            due("13 stable behind " + h, x.behind(1, h, 0), stable[h]);
            due("13 dung behind " + h, x.behind(1, h, 1), dung[h]);
            due("13 town behind " + h, x.behind(2, h, 0), town[h]);
            due("13 no dung there", x.behind(2, h, 1), 0);
        }
        due("13 behind 12", x.behind(2, 12, 0), 7);
        for (int bad : new int[] {-1, 13, LEAST, MOST}) {
            due("13 h " + bad, x.behind(0, bad, 0), OUTSIDE);
            due("13 what " + bad, x.behind(0, 0, bad), OUTSIDE);
            due("13 place " + bad, x.behind(bad, 13, 9), UNKNOWN);
        }
        due("13 what 2", x.behind(0, 0, 2), OUTSIDE);
        due("13 place 3", x.behind(3, 0, 0), UNKNOWN);
        refused("13 nothing changes", x, ahead, 0, 0);
    }

    // Promise 14
    private static void by() {
        StableRivers x = Check.on("RD73S5TM4C011C120C131");
        String ahead = Check.all(x);
        due("14 none open: dung", x.by(0, 12, 0), 5);
        due("14 none open: worth", x.by(0, 12, 2), 0);
        due("14 none open: does", x.by(0, 12, 3), 0);
        due("14 0 and 2: dung behind 1", x.by(5, 1, 0), 2);
        due("14 0 and 2: dung behind 2", x.by(5, 2, 0), 0);
        due("14 0 and 2: worth behind 2", x.by(5, 2, 2), 12);
        due("14 0 and 2: worth behind 4", x.by(5, 4, 2), 28);
        due("14 0 and 2: dry", x.by(5, 12, 1), 0);
        due("14 0 and 2: does behind 1", x.by(5, 1, 3), 0);
        due("14 0 and 2: does behind 2", x.by(5, 2, 3), 1);
        due("14 0 and 1: wet", x.by(3, 2, 1), 4);
        due("14 0 and 1: not wet yet", x.by(3, 1, 1), 0);
        due("14 0 and 1: does not", x.by(3, 12, 3), 0);
        due("14 all: by the least", x.by(7, 2, 1), 4);
        due("14 h = 0", x.by(7, 0, 0), 5);
        for (int bad : new int[] {-1, 13, LEAST, MOST}) {
            due("14 h " + bad, x.by(0, bad, 0), OUTSIDE);
            due("14 what " + bad, x.by(0, 0, bad), OUTSIDE);
            due("14 turning " + bad, x.by(bad == 13 ? 8 : bad, 0, 0), OUTSIDE);
        }
        due("14 what 4", x.by(0, 0, 4), OUTSIDE);
        refused("14 nothing changes", x, ahead, 0, 0);
        x.turn(1);
        x.hour();
        x.hour();
        due("14 wet now: wet by any", x.by(0, 0, 1), 4);
        due("14 wet now: does by none", x.by(5, 12, 3), 0);
    }

    // Promise 15
    private static void once() {
        StableRivers x = Check.on("RD73S5TM4C010C121C130");
        String ahead = Check.all(x);
        due("15 behind 1 it can not be", x.once(1, false), NONE);
        due("15 nor how many", x.once(1, true), NONE);
        // Behind 2 the stable would let go into the town: ditch 1 must be turned too.
        due("15 behind 2", x.once(2, false), 1);
        due("15 how many", x.once(2, true), 2);
        x.turn(1);
        due("15 one is enough now", x.once(12, true), 1);
        due("15 the least by bits", x.once(12, false), 1);
        x.turn(0);
        due("15 none", x.once(12, true), 0);
        due("15 as it is", x.once(12, false), 1);
        for (int h : new int[] {-1, 13, LEAST, MOST}) {
            due("15 once(" + h + ")", x.once(h, false), OUTSIDE);
            due("15 once(" + h + ", true)", x.once(h, true), OUTSIDE);
        }
        x.undo();
        x.undo();
        refused("15 nothing changes", x, ahead, 0, 0);
        // Two dams, each of which could wash it by one ditch: of like ones the least by bits.
        StableRivers two = Check.on("RD55D55S5C120C020");
        due("15 of like ones the least", two.once(1, false), 1);
        // Fewer turned goes ahead of the least by bits.
        StableRivers fewer = Check.on("RD55S5TC011C121");
        due("15 fewest first", fewer.once(1, false), 3);
        due("15 then ditch 1 is turned", fewer.once(2, false), 1);
        due("15 all are shut", Check.on("RD91TC011").once(1, false), 0);
        StableRivers clean = Check.on("RS0TC011");
        due("15 h = 0", clean.once(0, false), 1);
        StableRivers wet = Check.on("RD91TC011");
        wet.hour();
        due("15 a town that is wet now", wet.once(0, false), NONE);
    }

    // Promise 16
    private static void twice() {
        // One dam, two stables behind two ditches, of which only the least open one runs.
        StableRivers x = Check.on("RD94S4S4C010C020");
        String ahead = Check.all(x);
        due("16 at once it can not be", x.once(12, true), NONE);
        due("16 ditch 1 first, then 0, which goes ahead of it", x.twice(2, 1), 2);
        due("16 the same in three hours", x.twice(3, 1), 2);
        due("16 both at the end", x.twice(2, 2), NONE);
        due("16 too short", x.twice(1, 1), NONE);
        due("16 too late: all has run to the one stable", x.twice(12, 11), NONE);
        due("16 shut, shut: then at once", Check.on("RD44S4C010").twice(12, 11), 1);
        // Ditch 1 must be shut by the second hour, or the town is wet.
        StableRivers shut = Check.on("RD91S1TC011C121");
        due("16 now or then, ditch 1 alone is turned", shut.twice(2, 1), 1);
        shut.turn(0);
        due("16 dug now, ditch 1 turned now or then", shut.twice(3, 1), 2);
        for (int t : new int[] {0, 4, -1, LEAST, MOST}) {
            due("16 twice(3, " + t + ")", x.twice(3, t), OUTSIDE);
        }
        for (int h : new int[] {-1, 13, LEAST, MOST}) {
            due("16 twice(" + h + ", 1)", x.twice(h, 1), OUTSIDE);
        }
        due("16 twice(0, 0)", x.twice(0, 0), OUTSIDE);
        due("16 twice(0, 1)", x.twice(0, 1), OUTSIDE);
        refused("16 nothing changes", x, ahead, 0, 0);
        StableRivers wet = Check.on("RD91TC011");
        due("16 shut it now", wet.twice(3, 2), 1);
        wet.hour();
        due("16 wet now", wet.twice(3, 2), NONE);
        StableRivers done = Check.on("RS0");
        due("16 nothing to do", done.twice(1, 1), 0);
    }

    // Promise 17
    private static void richest() {
        StableRivers x = Check.on("RD99S5M2M3C010C120C130");
        String ahead = Check.all(x);
        due("17 h = 0", x.richest(0), NONE);
        due("17 no meadow is reached: the least that does", x.richest(1), 1);
        due("17 worth 27 ahead of 18", x.richest(2), 5);
        for (int h : new int[] {-1, 13, LEAST, MOST}) {
            due("17 richest(" + h + ")", x.richest(h), OUTSIDE);
        }
        refused("17 nothing changes", x, ahead, 0, 0);
        StableRivers town = Check.on("RD99S5M2TC011C120C131");
        due("17 no wet town", town.richest(2), 3);
        StableRivers like = Check.on("RD99S5M2C010C120");
        due("17 behind 2", like.richest(2), 3);
        like.turn(0);
        like.hour();
        like.hour();
        due("17 of like ones the least", like.richest(0), 0);
        StableRivers straight = Check.on("RD22M1M1C010C020");
        due("17 of like worth the least by bits", straight.richest(1), 1);
    }

    // Promise 18
    private static void barred() {
        StableRivers x = Check.on("RD91S2S3TC010C020C131");
        String ahead = Check.all(x);
        due("18 behind 1: the first one", x.barred(1), 1);
        due("18 behind 2: the other one", x.barred(2), 2);
        due("18 behind 3: each by a turning of its own", x.barred(3), NONE);
        due("18 though not both at once", x.once(3, true), NONE);
        for (int h : new int[] {-1, 13, LEAST, MOST}) {
            due("18 barred(" + h + ")", x.barred(h), OUTSIDE);
        }
        refused("18 nothing changes", x, ahead, 0, 0);
        due("18 no way to it", Check.on("RTS0S1S1").barred(12), 2);
        due("18 place 0", Check.on("RS1D11").barred(12), 0);
        due("18 clean from the first", Check.on("RS0").barred(0), NONE);
        StableRivers wet = Check.on("RD91TS1C011C020");
        wet.hour();
        due("18 wet towns do not bar", wet.barred(1), NONE);
    }

    // Promise 19
    private static void free() {
        // It does with ditch 0 open and ditch 1 not; ditch 2 is of no matter.
        StableRivers x = Check.on("RD55S5TM1C011C120C130");
        String ahead = Check.all(x);
        due("19 ditch 0", x.free(0, 2), 2);
        due("19 ditch 1", x.free(1, 2), 0);
        due("19 ditch 2", x.free(2, 2), 1);
        due("19 behind 1 ditch 1 is free", x.free(1, 1), 2);
        due("19 behind 0", x.free(0, 0), 0);
        for (int bad : new int[] {-1, 13, LEAST, MOST}) {
            due("19 h " + bad, x.free(0, bad), OUTSIDE);
            due("19 ditch " + bad, x.free(bad, bad), UNKNOWN);
        }
        due("19 ditch 3", x.free(3, 0), UNKNOWN);
        refused("19 nothing changes", x, ahead, 0, 0);
    }

    // Promise 20
    private static void stuck() {
        // The stable can be washed by ditch 0 alone, or by 1 and 2 together, an hour later.
        StableRivers way = Check.on("RD55S0S5C020C010C120");
        String ahead = Check.all(way);
        due("20 once", way.once(12, true), 1);
        due("20 by the other way", way.stuck(0, 12), 1);
        due("20 of no matter", way.stuck(1, 12), 0);
        due("20 a later ditch that sticks", Check.on("RD55S0S5C010C020").stuck(1, 12), NONE);
        due("20 too late by the other way", way.stuck(0, 1), NONE);
        due("20 it did not, anyhow", way.stuck(1, 0), NONE);
        for (int bad : new int[] {-1, 13, LEAST, MOST}) {
            due("20 h " + bad, way.stuck(0, bad), OUTSIDE);
            due("20 ditch " + bad, way.stuck(bad, bad), UNKNOWN);
        }
        due("20 ditch 3", way.stuck(3, 0), UNKNOWN);
        refused("20 nothing changes", way, ahead, 0, 0);
        StableRivers open = Check.on("RD55TC011");
        due("20 an open one that sticks", open.stuck(0, 1), NONE);
        due("20 behind 0", open.stuck(0, 0), 0);
    }

    private static void fraction(String what, int above, int below, int wantAbove, int wantBelow) {
        due(what + ", above", above, wantAbove);
        due(what + ", below", below, wantBelow);
    }

    // Promise 21
    private static void share() {
        // Both dams could wash 3 of 4 alone, together 4: each adds 3 if first, 1 if second.
        StableRivers x = Check.on("RD33D33S4C021C121");
        String ahead = Check.all(x);
        fraction("21 dam 0", x.share(0, 1, true), x.share(0, 1, false), 2, 1);
        fraction("21 dam 1", x.share(1, 1, true), x.share(1, 1, false), 2, 1);
        fraction("21 behind 0", x.share(1, 0, true), x.share(1, 0, false), 0, 1);
        // 2 of 3 and 3 of 3: (2 + 0) / 2, (3 + 1) / 2.
        StableRivers odd = Check.on("RD29D39S4C021C121");
        fraction("21 dam 0 of 2 and 3", odd.share(0, 1, true), odd.share(0, 1, false), 3, 2);
        fraction("21 dam 1 of 2 and 3", odd.share(1, 1, true), odd.share(1, 1, false), 5, 2);
        // Three dams, a stable of 1: each is first in a third of the orders.
        StableRivers three = Check.on("RD11D11D11S1C031C131C231");
        fraction("21 a third", three.share(2, 5, true), three.share(2, 5, false), 1, 3);
        // 1, 2 and 3 of 4: by sets of those ahead (2 * 1 + 1 + 1 + 0) / 6, and so on; 4 in all.
        StableRivers steps = Check.on("RD19D29D39S4C031C131C231");
        fraction("21 dam of 1", steps.share(0, 1, true), steps.share(0, 1, false), 2, 3);
        fraction("21 dam of 2", steps.share(1, 1, true), steps.share(1, 1, false), 7, 6);
        fraction("21 dam of 3", steps.share(2, 1, true), steps.share(2, 1, false), 13, 6);
        // A dam behind a dam adds nothing, unless the one ahead has come.
        StableRivers row = Check.on("RD99D09S8C011C121");
        fraction("21 row, the first", row.share(0, 2, true), row.share(0, 2, false), 4, 1);
        fraction("21 row, the second", row.share(1, 2, true), row.share(1, 2, false), 4, 1);
        for (int bad : new int[] {-1, 13, LEAST, MOST}) {
            for (boolean upper : new boolean[] {true, false}) {
                due("21 h " + bad, x.share(0, bad, upper), OUTSIDE);
                due("21 h ahead of STATE " + bad, x.share(2, bad, upper), OUTSIDE);
                due("21 place " + bad, x.share(bad, bad, upper), UNKNOWN);
                due("21 no dam", x.share(2, 0, upper), STATE);
            }
        }
        due("21 place 3", x.share(3, 0, false), UNKNOWN);
        refused("21 nothing changes", x, ahead, 0, 0);
        // Ditches as they are: a shut one brings no share.
        x.turn(0);
        fraction("21 shut", x.share(0, 1, true), x.share(0, 1, false), 0, 1);
    }

    // Promise 22
    private static void chance() {
        StableRivers x = Check.on("RD19D19S3C021C121");
        String ahead = Check.all(x);
        // One bucket more, from either dam, is enough.
        fraction("22 by 3", x.chance(3, 1, true), x.chance(3, 1, false), 51, 100);
        fraction("22 by 5", x.chance(5, 1, true), x.chance(5, 1, false), 3, 4);
        fraction("22 by 0", x.chance(0, 1, true), x.chance(0, 1, false), 0, 1);
        fraction("22 by 10", x.chance(10, 1, true), x.chance(10, 1, false), 1, 1);
        fraction("22 behind 0", x.chance(10, 0, true), x.chance(10, 0, false), 0, 1);
        for (int bad : new int[] {-1, 13, LEAST, MOST}) {
            for (boolean upper : new boolean[] {true, false}) {
                due("22 h " + bad, x.chance(0, bad, upper), OUTSIDE);
                due("22 x " + bad, x.chance(bad, 0, upper), OUTSIDE);
            }
        }
        due("22 x = 11", x.chance(11, 0, false), OUTSIDE);
        refused("22 nothing changes", x, ahead, 0, 0);
        fraction("22 no dams", Check.on("RS0TC011").chance(5, 1, true), Check.on("RS0TC011").chance(5, 1, false), 1, 1);
        // A dry dam wets its town only if it rains there.
        StableRivers town = Check.on("RD01TC011");
        fraction("22 dry", town.chance(2, 1, true), town.chance(2, 1, false), 4, 5);
        town.turn(0);
        fraction("22 ditches as they are", town.chance(2, 1, true), town.chance(2, 1, false), 1, 1);
    }

    // Promise 23
    private static void mean() {
        StableRivers x = Check.on("RD19D19S3C021C121");
        String ahead = Check.all(x);
        // 1 is left if it rains on neither dam.
        fraction("23 by 3", x.mean(3, 1, true), x.mean(3, 1, false), 49, 100);
        fraction("23 by 0", x.mean(0, 1, true), x.mean(0, 1, false), 1, 1);
        fraction("23 by 10", x.mean(10, 1, true), x.mean(10, 1, false), 0, 1);
        fraction("23 behind 0", x.mean(5, 0, true), x.mean(5, 0, false), 3, 1);
        StableRivers two = Check.on("RD01S2S3C011");
        fraction("23 of all stables", two.mean(4, 1, true), two.mean(4, 1, false), 23, 5);
        for (int bad : new int[] {-1, 13, LEAST, MOST}) {
            for (boolean upper : new boolean[] {true, false}) {
                due("23 h " + bad, x.mean(0, bad, upper), OUTSIDE);
                due("23 x " + bad, x.mean(bad, 0, upper), OUTSIDE);
            }
        }
        due("23 x = 11", x.mean(11, 0, true), OUTSIDE);
        refused("23 nothing changes", x, ahead, 0, 0);
    }

    // Promise 24
    private static void see() {
        StableRivers x = Check.on("RD73S5TC011C121");
        due("24 first", x.see(0, 0, 0), 1);
        due("24 edges", x.see(2, 12, 99), 2);
        String ahead = Check.all(x);
        for (int bad : new int[] {-1, 13, LEAST, MOST}) {
            due("24 t " + bad, x.see(0, bad, 0), OUTSIDE);
            due("24 place " + bad, x.see(bad, bad, bad), UNKNOWN);
        }
        for (int bad : new int[] {-1, 100, LEAST, MOST}) {
            due("24 k " + bad, x.see(0, 0, bad), OUTSIDE);
        }
        refused("24 place 3", x, ahead, x.see(3, 0, 0), UNKNOWN);
        for (int i = 3; i <= 6; i++) {
            due("24 on", x.see(1, 1, 1), i);
        }
        ahead = Check.all(x);
        due("24 FULL", x.see(1, 1, 1), FULL);
        due("24 OUTSIDE ahead of FULL", x.see(1, 13, 1), OUTSIDE);
        refused("24 UNKNOWN ahead of FULL", x, ahead, x.see(3, 1, 1), UNKNOWN);
    }

    // Promise 25
    private static void unsee() {
        StableRivers x = Check.on("RD73S5TC011C121");
        due("25 nothing was", x.unsee(), 0);
        x.see(0, 0, 1);
        x.see(0, 0, 2);
        due("25 two", x.unsee(), 2);
        due("25 none is left", x.count(10), 0);
        due("25 all fit again", x.fit(0), 4);
        due("25 see anew", x.see(0, 0, 7), 1);
        due("25 the old ones are gone", x.fit(0), 4);
    }

    // Promise 26
    private static void fit() {
        StableRivers x = Check.on("RD73S5TC011C121C020");
        String ahead = Check.all(x);
        due("26 all fit", x.fit(0), 8);
        due("26 open in all", x.fit(1), 0);
        due("26 open in none", x.fit(2), 0);
        refused("26 nothing changes", x, ahead, 0, 0);
        x.see(1, 1, 3);
        due("26 with ditch 0", x.fit(0), 4);
        due("26 0 is open in all", x.fit(1), 1);
        due("26 none is shut in all", x.fit(2), 0);
        x.see(2, 2, 0);
        due("26 ditch 1 is shut", x.fit(0), 2);
        due("26 in all", x.fit(1), 1);
        due("26 in none", x.fit(2), 2);
        x.see(0, 0, 6);
        due("26 what is not so", x.fit(0), 0);
        due("26 NONE in all", x.fit(1), NONE);
        due("26 NONE in none", x.fit(2), NONE);
        for (int bad : new int[] {-1, 3, LEAST, MOST}) {
            due("26 fit(" + bad + ")", x.fit(bad), OUTSIDE);
        }
        x.unsee();
        x.see(2, 1, 3);
        due("26 by ditch 2, with ditch 0 shut", x.fit(0), 2);
        due("26 2 in all", x.fit(1), 4);
        due("26 0 in none", x.fit(2), 1);
        // From now on: an hour later the same words tell another hour.
        x.unsee();
        x.see(0, 1, 1);
        due("26 not yet", x.fit(0), 0);
        x.hour();
        due("26 now it fits if it lets go", x.fit(0), 6);
        // Places that there are not any more are not looked at; when they are there again, they are.
        x.unsee();
        x.see(2, 0, 50);
        due("26 it is not so", x.fit(0), 0);
        Check.tell(x, "RD11S1C011");
        x.land();
        due("26 nothing is looked at", x.fit(0), 2);
        due("26 but it is still seen", x.count(10), 1);
        Check.tell(x, "RD11S1TC011");
        x.land();
        due("26 looked at again", x.fit(0), 0);
    }

    // Promise 27
    private static void kings() {
        StableRivers x = Check.on("RD93S9C010");
        String ahead = Check.all(x);
        due("27 one turn: he digs it", x.kings(1, 1, false), 6);
        due("27 his move", x.kings(1, 1, true), 1);
        due("27 two turns: the other one dams it up", x.kings(1, 2, false), 6);
        due("27 three turns", x.kings(1, 3, false), 3);
        due("27 four turns", x.kings(1, 4, false), 3);
        due("27 his move of four", x.kings(1, 4, true), 1);
        refused("27 nothing changes", x, ahead, 0, 0);
        x.turn(0);
        due("27 open: he lets it be", x.kings(1, 1, true), 0);
        due("27 of like ones the least", Check.on("RD93S9S9C010").kings(2, 2, true), 0);
        StableRivers two = Check.on("RD93D93S9S9C030C020C120");
        due("27 the least ditch of like ones", two.kings(2, 1, true), 2);
        due("27 what is left", two.kings(2, 1, false), 6);
        StableRivers both = Check.on("RD93D93S9C021C120");
        due("27 one runs, he digs the other too", both.kings(2, 1, true), 2);
        due("27 both run for an hour", both.kings(2, 1, false), 3);
        // Ditch 0 goes ahead of ditch 1: the other one can take the water away by digging it.
        due("27 dig, taken away", two.kings(2, 2, false), 6);
        for (boolean first : new boolean[] {true, false}) {
            for (int bad : new int[] {0, 5, -1, LEAST, MOST}) {
                due("27 n " + bad, x.kings(1, bad, first), OUTSIDE);
                due("27 n ahead of STATE " + bad, x.kings(0, bad, first), OUTSIDE);
            }
            for (int bad : new int[] {-1, 2, 6, LEAST, MOST}) {
                due("27 place " + bad, x.kings(bad, 0, first), UNKNOWN);
            }
            due("27 no stable", x.kings(0, 1, first), STATE);
        }
        StableRivers none = Check.on("RS7");
        due("27 no ditches", none.kings(0, 4, false), 7);
        due("27 nothing to turn", none.kings(0, 4, true), 0);
    }

    // Promise 28
    private static void seed() {
        StableRivers x = new StableRivers();
        due("28 at first", x.seed(Long.MIN_VALUE), 0);
        due("28 what it was", x.seed(Long.MAX_VALUE), Long.MIN_VALUE);
        due("28 what it was then", x.seed(-1), Long.MAX_VALUE);
        due("28 and then", x.seed(0), -1);
    }

    // Promise 29
    private static void days() {
        // The first x from seed 0 is 1442695040888963407; its upper 31 bits are 167951777.
        StableRivers one = Check.on("RD01S9C011");
        due("29 odd: no dam, no rain", one.days(1), 9);
        due("29 the seed went on", one.seed(0), 1442695040888963407L);
        StableRivers other = Check.on("RS9D01C101");
        String ahead = Check.all(other);
        due("29 a bucket more, then the hour", other.days(1), 8);
        other.seed(0);
        refused("29 nothing else changes", other, ahead, 0, 0);
        other.days(2);
        due("29 two steps of the seed", other.seed(0),
                1442695040888963407L * 6364136223846793005L + 1442695040888963407L);
        StableRivers town = Check.on("RS4TD91C211");
        due("29 100 for each wet town", town.days(1), 104);
        due("29 no town is wet now", town.count(7), 0);
        due("29 no bucket more at a stable", Check.on("RTS0C101").days(1), 0);
        due("29 place 0 lets go too", Check.on("RD91TC011").days(1), 100);
        StableRivers none = new StableRivers();
        none.seed(5);
        due("29 no places", none.days(40), 0);
        due("29 no places: the seed stays", none.seed(5), 5);
        for (int bad : new int[] {0, 41, -1, LEAST, MOST}) {
            due("29 days(" + bad + ")", none.days(bad), OUTSIDE);
            due("29 days(" + bad + ") with places", town.days(bad), OUTSIDE);
        }
        long seed = town.seed(3);
        due("29 OUTSIDE: the seed stays", seed, 1442695040888963407L);
        // A bucket comes into the only place; without a ditch it is never told, but the seed goes 40 steps.
        StableRivers dam = Check.on("RD11");
        long x = 3;
        dam.seed(x);
        due("29 forty", dam.days(40), 0);
        for (int i = 0; i < 40; i++) {
            x = x * 6364136223846793005L + 1442695040888963407L;
        }
        due("29 forty steps", dam.seed(0), x);
    }

    // Promise 30
    private static void keep() {
        StableRivers x = Check.on("RD73S5TC011C121");
        due("30 at hour 0", x.keep(0), 0);
        x.hour();
        x.hour();
        due("30 at hour 2", x.keep(1), 2);
        due("30 the row stays", x.count(9), 2);
        due("30 undo goes on", x.undo(), 1);
        due("30 over what was kept", x.keep(1), 1);
        x.hour();
        due("30 the last one is kept", x.again(1), 1);
        for (int bad : new int[] {-1, 2, LEAST, MOST}) {
            due("30 keep(" + bad + ")", x.keep(bad), UNKNOWN);
        }
    }

    // Promise 31
    private static void again() {
        StableRivers x = Check.on("RD73S5TC011C121");
        x.hour();
        x.hour();
        x.keep(0);
        String ahead = Check.all(x);
        due("31 none were kept there", x.again(1), STATE);
        for (int bad : new int[] {-1, 2, LEAST, MOST}) {
            due("31 again(" + bad + ")", x.again(bad), UNKNOWN);
        }
        refused("31 nothing changes", x, ahead, 0, 0);
        x.turn(0);
        x.rain(0, 9);
        x.hour();
        due("31 again", x.again(0), 2);
        due("31 the row is empty", x.count(9), 0);
        due("31 nothing to undo", x.undo(), STATE);
        due("31 buckets", x.place(0, 1), 1);
        due("31 dung", x.place(1, 2), 0);
        due("31 ditches", x.count(4), 3);
        due("31 wet", x.place(2, 4), 2);
        String kept = Check.all(x);
        x.hour();
        x.turn(1);
        due("31 a second time", x.again(0), 2);
        Check.isTrue("31 all is as it was", Check.all(x).equals(kept));
        x.keep(1);
        x.hour();
        due("31 the slots are apart", x.keep(0), 3);
        due("31 slot 1", x.again(1), 2);
        due("31 slot 0", x.again(0), 3);
        Check.tell(x, "RT");
        x.land();
        due("31 gone with the land", x.again(0), STATE);
    }

    // Promise 32
    private static void count() {
        StableRivers x = Check.on("RD73S5TM4C011C121C130");
        x.hour();
        x.hour();
        x.turn(2);
        x.turn(1);
        x.hour();
        x.see(0, 0, 0);
        int[] wants = {21, 4, 3, 3, 5, 0, 7, 4, 12, 5, 1};
        for (int what = 0; what <= 10; what++) {
            due("32 count(" + what + ")", x.count(what), wants[what]);
        }
        for (int bad : new int[] {-1, 11, LEAST, MOST}) {
            due("32 count(" + bad + ")", x.count(bad), OUTSIDE);
        }
        StableRivers two = Check.on("RS5S4TD99D11T");
        due("32 all dung", two.count(5), 9);
        due("32 all buckets", two.count(6), 10);
        StableRivers zero = Check.on("RD91");
        due("32 buckets of place 0", zero.count(6), 9);
        StableRivers wet = Check.on("RTD91C101");
        wet.hour();
        due("32 wet place 0", wet.count(7), 1);
        StableRivers rich = Check.on("RM3D91C101");
        rich.hour();
        due("32 worth of place 0", rich.count(8), 3);
    }
}
