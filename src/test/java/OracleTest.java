import java.util.Random;

/** Runs of calls drawn by fixed seeds, on the class and on the Oracle: both must answer alike. */
final class OracleTest {
    private final Random random;
    private final StableRivers rivers = new StableRivers();
    private final Oracle oracle = new Oracle();
    private final StringBuilder calls = new StringBuilder();

    private OracleTest(long seed) {
        random = new Random(seed);
    }

    public static void main(String[] args) {
        for (long seed = 1; seed <= 300; seed++) {
            OracleTest run = new OracleTest(seed);
            run.tellLand();
            // A land takes up to 46 calls, a dear one is asked seldom: all stay below 512.
            for (int i = 0; i < 300; i++) {
                run.cheapCall();
                if (i % 5 == 0) {
                    run.dearCall();
                }
                if (i == 150) {
                    run.tellLand();
                }
            }
        }
        for (long seed = 1; seed <= 400; seed++) {
            new OracleTest(seed).wrongText();
        }
        Check.end("OracleTest");
    }

    private void due(String call, long got, long want) {
        calls.append(call).append(' ');
        Check.due(got == want ? call : calls.toString(), got, want);
    }

    /** A number in the range or, now and then, just outside it. */
    private int near(int least, int most) {
        if (random.nextInt(14) == 0) {
            return random.nextBoolean() ? least - 1 : most + 1;
        }
        return least + random.nextInt(most - least + 1);
    }

    private void write(String text) {
        due("wipe()", rivers.wipe(), oracle.wipe());
        for (char letter : text.toCharArray()) {
            due("write(" + (int) letter + ")", rivers.write(letter), oracle.write(letter));
        }
    }

    private void tellLand() {
        write(landText());
        due("fault()", rivers.fault(), oracle.fault());
        due("land()", rivers.land(), oracle.land());
    }

    private String landText() {
        StringBuilder text = new StringBuilder("R");
        int places = 1 + random.nextInt(6);
        for (int p = 0; p < places; p++) {
            text.append(placeText());
        }
        int dug = 0;
        for (int i = 0; i < 60 && dug < 6; i++) {
            String more = "C" + random.nextInt(places) + random.nextInt(places) + random.nextInt(2);
            if (Oracle.tellOf(text + more) != null) {
                text.append(more);
                dug++;
            }
        }
        return text.toString();
    }

    private String placeText() {
        return switch (random.nextInt(8)) {
            case 0, 1, 2 -> "D" + random.nextInt(10) + (1 + random.nextInt(9));
            case 3, 4, 5 -> "S" + random.nextInt(6);
            case 6 -> "M" + (1 + random.nextInt(9));
            default -> "T";
        };
    }

    private void wrongText() {
        StringBuilder text = new StringBuilder(landText());
        String signs = "RDSMTC0123456789dx:/ \u00e9";
        int at = random.nextInt(text.length());
        char sign = signs.charAt(random.nextInt(signs.length()));
        switch (random.nextInt(4)) {
            case 0 -> text.setCharAt(at, sign);
            case 1 -> text.insert(at, sign);
            case 2 -> text.deleteCharAt(at);
            default -> text.setLength(at);
        }
        if (random.nextInt(3) == 0) {
            text.append("C0");
        }
        write(text.length() > 48 ? text.substring(0, 48) : text.toString());
        due("fault()", rivers.fault(), oracle.fault());
        due("land()", rivers.land(), oracle.land());
        due("count(1)", rivers.count(1), oracle.count(1));
    }

    private void cheapCall() {
        int p = near(0, 5);
        int d = near(0, 5);
        int h = near(0, 12);
        int what = near(0, 5);
        switch (random.nextInt(17)) {
            case 0 -> due("place(" + p + "," + what + ")", rivers.place(p, what), oracle.place(p, what));
            case 1 -> due("ditch(" + d + "," + what + ")", rivers.ditch(d, what), oracle.ditch(d, what));
            case 2, 3 -> due("hour()", rivers.hour(), oracle.hour());
            case 4, 5 -> due("turn(" + d + ")", rivers.turn(d), oracle.turn(d));
            case 6, 7 -> {
                int k = near(1, 9);
                due("rain(" + p + "," + k + ")", rivers.rain(p, k), oracle.rain(p, k));
            }
            case 8 -> due("undo()", rivers.undo(), oracle.undo());
            case 9 -> judge();
            case 10 -> due("behind(" + p + "," + h + "," + what / 2 + ")", rivers.behind(p, h, what / 2), oracle.behind(p, h, what / 2));
            case 11 -> {
                int turning = near(0, random.nextBoolean() ? 63 : 7);
                due("by(" + turning + "," + h + "," + what + ")", rivers.by(turning, h, what), oracle.by(turning, h, what));
            }
            case 12 -> see();
            case 13 -> {
                int slot = near(0, 1);
                due("keep(" + slot + ")", rivers.keep(slot), oracle.keep(slot));
            }
            case 14 -> {
                int slot = near(0, 1);
                due("again(" + slot + ")", rivers.again(slot), oracle.again(slot));
            }
            default -> {
                int which = near(0, 10);
                due("count(" + which + ")", rivers.count(which), oracle.count(which));
            }
        }
    }

    private void judge() {
        int n = near(1, 8);
        int row = 0;
        for (int i = 0; i < n; i++) {
            row = 10 * row + (random.nextInt(3) == 0 ? 6 : random.nextInt(random.nextInt(6) == 0 ? 10 : 4));
        }
        row = random.nextInt(20) == 0 ? -row - 1 : row;
        n = random.nextInt(20) == 0 ? n - 1 : n;
        due("judge(" + n + "," + row + ")", rivers.judge(n, row), oracle.judge(n, row));
    }

    private void see() {
        int p = near(0, 5);
        int t = near(0, 12);
        int k = near(0, 99);
        // Mostly what is so by some turning, or nearly nothing would ever fit.
        if (random.nextInt(4) != 0 && oracle.behind(p, t, 0) >= 0) {
            k = oracle.behind(p, t, 0);
        }
        due("see(" + p + "," + t + "," + k + ")", rivers.see(p, t, k), oracle.see(p, t, k));
        if (random.nextInt(5) == 0) {
            due("unsee()", rivers.unsee(), oracle.unsee());
        }
    }

    private void dearCall() {
        int p = near(0, 5);
        int d = near(0, 5);
        int h = near(0, 12);
        int x = near(0, 10);
        boolean flag = random.nextBoolean();
        String two = "(" + p + "," + h + "," + flag + ")";
        switch (random.nextInt(13)) {
            case 0 -> due("once(" + h + "," + flag + ")", rivers.once(h, flag), oracle.once(h, flag));
            case 1 -> {
                int most = near(1, 6);
                int t = near(1, Math.max(1, most));
                due("twice(" + most + "," + t + ")", rivers.twice(most, t), oracle.twice(most, t));
            }
            case 2 -> due("richest(" + h + ")", rivers.richest(h), oracle.richest(h));
            case 3 -> due("barred(" + h + ")", rivers.barred(h), oracle.barred(h));
            case 4 -> due("free(" + d + "," + h + ")", rivers.free(d, h), oracle.free(d, h));
            case 5 -> due("stuck(" + d + "," + h + ")", rivers.stuck(d, h), oracle.stuck(d, h));
            case 6 -> due("share" + two, rivers.share(p, h, flag), oracle.share(p, h, flag));
            case 7 -> due("chance(" + x + "," + h + "," + flag + ")", rivers.chance(x, h, flag), oracle.chance(x, h, flag));
            case 8 -> due("mean(" + x + "," + h + "," + flag + ")", rivers.mean(x, h, flag), oracle.mean(x, h, flag));
            case 9 -> {
                int what = near(0, 2);
                due("fit(" + what + ")", rivers.fit(what), oracle.fit(what));
            }
            case 10 -> {
                int n = near(1, 4);
                due("kings(" + p + "," + n + "," + flag + ")", rivers.kings(p, n, flag), oracle.kings(p, n, flag));
            }
            case 11 -> {
                long v = random.nextLong();
                due("seed(" + v + ")", rivers.seed(v), oracle.seed(v));
            }
            default -> {
                int m = near(1, 40);
                due("days(" + m + ")", rivers.days(m), oracle.days(m));
            }
        }
    }
}
