import java.util.Arrays;

/** Counts answers that are not as due, and ends a test with 1 if there was one. */
final class Check {
    private static int wrong = 0;
    private static int asked = 0;

    private Check() {
    }

    static void due(String what, long got, long want) {
        asked++;
        if (got != want) {
            wrong++;
            System.out.println(what + " answered " + got + ", due is " + want);
        }
    }

    static void isTrue(String what, boolean so) {
        due(what, so ? 1 : 0, 1);
    }

    /** Writes the text, letter by letter, over what was written. */
    static StableRivers tell(StableRivers rivers, String text) {
        rivers.wipe();
        for (int i = 0; i < text.length(); i++) {
            due("write of letter " + i + " of " + text, rivers.write(text.charAt(i)), i + 1);
        }
        return rivers;
    }

    /** A new object whose land is as the text tells. */
    static StableRivers on(String text) {
        StableRivers rivers = tell(new StableRivers(), text);
        isTrue("land of " + text, rivers.land() >= 0);
        return rivers;
    }

    /** All that can be asked of an object without changing it, to see that a refused call changed nothing. */
    static String all(StableRivers rivers) {
        int[] answers = new int[11 + 6 * 6 + 6 * 3 + 4];
        int n = 0;
        for (int what = 0; what <= 10; what++) {
            answers[n++] = rivers.count(what);
        }
        for (int place = 0; place < 6; place++) {
            for (int what = 0; what <= 5; what++) {
                answers[n++] = rivers.place(place, what);
            }
        }
        for (int ditch = 0; ditch < 6; ditch++) {
            for (int what = 0; what <= 2; what++) {
                answers[n++] = rivers.ditch(ditch, what);
            }
        }
        answers[n++] = rivers.fault();
        for (int what = 0; what <= 2; what++) {
            answers[n++] = rivers.fit(what);
        }
        long seed = rivers.seed(0);
        rivers.seed(seed);
        return Arrays.toString(answers) + seed;
    }

    static void end(String test) {
        System.out.println(test + ": " + asked + " answers, " + wrong + " not as due");
        if (asked == 0 || wrong != 0) {
            System.exit(1);
        }
    }
}
