import java.math.BigInteger;
import java.util.ArrayDeque;
import java.util.ArrayList;
import java.util.Deque;
import java.util.HashMap;
import java.util.List;
import java.util.Map;
import java.util.TreeMap;
import java.util.regex.Matcher;
import java.util.regex.Pattern;

/**
 * The document told a second time, in other ways than the class tells it (whole texts instead of
 * letters, orders instead of sets, worlds that are never changed), so that both can be held together.
 */
final class Oracle {
    private static final int UNKNOWN = -1, OUTSIDE = -2, STATE = -3, FULL = -4, NONE = -9;
    private static final Pattern PART = Pattern.compile("D([0-9])([1-9])|S([0-9])|M([1-9])|(T)|C([0-5])([0-5])([01])");

    record Place(char kind, int stock, int measure) { }

    record Ditch(int from, int to, boolean open) { }

    record Told(List<Place> places, List<Ditch> ditches) { }

    record World(Map<Integer, Integer> water, Map<Integer, Integer> dung, Map<Integer, Integer> wet,
            int open, int hour) { }

    record Sight(int place, int time, int buckets) { }

    private String text = "";
    private Told told = tellOf("R");
    private World now = first(told);
    private final Deque<World> acts = new ArrayDeque<>();
    private final World[] slots = new World[2];
    private final List<Sight> sights = new ArrayList<>();
    private long seed = 0;

    // ---- texts

    /** The land of a whole text, or null if it is none. */
    static Told tellOf(String text) {
        if (!text.startsWith("R")) {
            return null;
        }
        List<Place> places = new ArrayList<>();
        List<Ditch> ditches = new ArrayList<>();
        Matcher m = PART.matcher(text);
        int at = 1;
        while (at < text.length()) {
            m.region(at, text.length());
            if (!m.lookingAt()) {
                return null;
            }
            at = m.end();
            if (m.group(1) != null) {
                places.add(new Place('D', number(m.group(1)), number(m.group(2))));
            } else if (m.group(3) != null) {
                places.add(new Place('S', number(m.group(3)), 0));
            } else if (m.group(4) != null) {
                places.add(new Place('M', 0, number(m.group(4))));
            } else if (m.group(5) != null) {
                places.add(new Place('T', 0, 0));
            } else {
                Ditch ditch = new Ditch(number(m.group(6)), number(m.group(7)), m.group(8).equals("1"));
                if (!mayBeDug(places, ditches, ditch)) {
                    return null;
                }
                ditches.add(ditch);
            }
            if (places.size() > 6 || ditches.size() > 6) {
                return null;
            }
        }
        return new Told(places, ditches);
    }

    private static boolean mayBeDug(List<Place> places, List<Ditch> ditches, Ditch ditch) {
        if (ditch.from >= places.size() || ditch.to >= places.size() || ditch.from == ditch.to) {
            return false;
        }
        if ("DS".indexOf(places.get(ditch.from).kind) < 0) {
            return false;
        }
        return ditches.stream().noneMatch(d -> d.from == ditch.from && d.to == ditch.to);
    }

    private static int number(String s) {
        return Integer.parseInt(s);
    }

    /** Whether some text that begins so is a land: a part that is begun takes at most three letters more. */
    static boolean canBecomeLand(String begin) {
        if (begin.isEmpty() || tellOf(begin) != null) {
            return true;
        }
        for (int more = 1; more <= 3; more++) {
            int ends = (int) Math.pow(10, more);
            for (int i = 0; i < ends; i++) {
                if (tellOf(begin + String.format("%0" + more + "d", i)) != null) {
                    return true;
                }
            }
        }
        return false;
    }

    int write(int letter) {
        if (letter < 0 || letter > 255) {
            return OUTSIDE;
        }
        if (text.length() == 48) {
            return FULL;
        }
        text += (char) letter;
        return text.length();
    }

    int wipe() {
        int length = text.length();
        text = "";
        return length;
    }

    int fault() {
        for (int end = 1; end <= text.length(); end++) {
            if (!canBecomeLand(text.substring(0, end))) {
                return end - 1;
            }
        }
        return tellOf(text) == null ? text.length() : NONE;
    }

    int land() {
        if (tellOf(text) == null) {
            return STATE;
        }
        told = tellOf(text);
        now = first(told);
        acts.clear();
        slots[0] = null;
        slots[1] = null;
        return 10 * told.places.size() + told.ditches.size();
    }

    // ---- worlds

    private static World first(Told told) {
        Map<Integer, Integer> water = new HashMap<>();
        Map<Integer, Integer> dung = new HashMap<>();
        for (int p = 0; p < told.places.size(); p++) {
            Place place = told.places.get(p);
            water.put(p, place.kind == 'D' ? place.stock : 0);
            if (place.kind == 'S') {
                dung.put(p, place.stock);
            }
        }
        int open = 0;
        for (int d = 0; d < told.ditches.size(); d++) {
            open += told.ditches.get(d).open ? 1 << d : 0;
        }
        return new World(water, dung, Map.of(), open, 0);
    }

    private World after(World w, List<Integer> silent) {
        Map<Integer, Integer> water = new HashMap<>(w.water);
        Map<Integer, Integer> dung = new HashMap<>(w.dung);
        Map<Integer, Integer> wet = new TreeMap<>(w.wet);
        Map<Integer, Integer> comes = new HashMap<>();
        for (int p = 0; p < told.places.size(); p++) {
            int out = outDitch(w, p);
            if (out == NONE || silent.contains(p)) {
                continue;
            }
            int amount = w.water.get(p);
            if (told.places.get(p).kind == 'D') {
                amount = Math.min(amount, told.places.get(p).measure);
            }
            water.merge(p, -amount, Integer::sum);
            comes.merge(told.ditches.get(out).to, amount, Integer::sum);
        }
        for (Map.Entry<Integer, Integer> e : comes.entrySet()) {
            int p = e.getKey();
            water.merge(p, e.getValue(), Integer::sum);
            if (dung.containsKey(p)) {
                dung.put(p, Math.max(0, dung.get(p) - e.getValue()));
            }
            if (told.places.get(p).kind == 'T' && e.getValue() > 0) {
                wet.putIfAbsent(p, w.hour + 1);
            }
        }
        return new World(water, dung, wet, w.open, w.hour + 1);
    }

    private int outDitch(World w, int p) {
        for (int d = 0; d < told.ditches.size(); d++) {
            if (told.ditches.get(d).from == p && (w.open & 1 << d) != 0) {
                return d;
            }
        }
        return NONE;
    }

    private World after(World w, int h) {
        World last = w;
        for (int i = 0; i < h; i++) {
            last = after(last, List.of());
        }
        return last;
    }

    private static World opened(World w, int open) {
        return new World(w.water, w.dung, w.wet, open, w.hour);
    }

    private static World rained(World w, int p, int k) {
        Map<Integer, Integer> water = new HashMap<>(w.water);
        water.merge(p, k, Integer::sum);
        return new World(water, w.dung, w.wet, w.open, w.hour);
    }

    private static int sum(Map<Integer, Integer> m) {
        return m.values().stream().mapToInt(Integer::intValue).sum();
    }

    private static int bits(Iterable<Integer> set) {
        int bits = 0;
        for (int p : set) {
            bits |= 1 << p;
        }
        return bits;
    }

    private int worth(World w) {
        int worth = 0;
        for (int p = 0; p < told.places.size(); p++) {
            if (told.places.get(p).kind == 'M') {
                worth += w.water.get(p) * told.places.get(p).measure;
            }
        }
        return worth;
    }

    private static boolean does(World w) {
        return sum(w.dung) == 0 && w.wet.isEmpty();
    }

    private boolean noPlace(int p) {
        return p < 0 || p >= told.places.size();
    }

    private boolean noDitch(int d) {
        return d < 0 || d >= told.ditches.size();
    }

    private static boolean out(int n, int least, int most) {
        return n < least || n > most;
    }

    private int turnings() {
        return 1 << told.ditches.size();
    }

    // ---- calls

    int place(int place, int what) {
        if (noPlace(place)) {
            return UNKNOWN;
        }
        return switch (what) {
            case 0 -> "DSMT".indexOf(told.places.get(place).kind);
            case 1 -> now.water.get(place);
            case 2 -> now.dung.getOrDefault(place, 0);
            case 3 -> told.places.get(place).measure;
            case 4 -> now.wet.getOrDefault(place, NONE);
            case 5 -> outDitch(now, place);
            default -> OUTSIDE;
        };
    }

    int ditch(int ditch, int what) {
        if (noDitch(ditch)) {
            return UNKNOWN;
        }
        return switch (what) {
            case 0 -> told.ditches.get(ditch).from;
            case 1 -> told.ditches.get(ditch).to;
            case 2 -> (now.open & 1 << ditch) != 0 ? 1 : 0;
            default -> OUTSIDE;
        };
    }

    private void act(World next) {
        acts.addLast(now);
        if (acts.size() > 14) {
            acts.removeFirst();
        }
        now = next;
    }

    int hour() {
        int ahead = sum(now.dung);
        act(after(now, 1));
        return ahead - sum(now.dung);
    }

    int turn(int ditch) {
        if (noDitch(ditch)) {
            return UNKNOWN;
        }
        act(opened(now, now.open ^ 1 << ditch));
        return (now.open & 1 << ditch) != 0 ? 1 : 0;
    }

    int rain(int place, int k) {
        if (noPlace(place)) {
            return UNKNOWN;
        }
        if (out(k, 1, 9)) {
            return OUTSIDE;
        }
        if (told.places.get(place).kind != 'D' || now.water.get(place) + k > 99) {
            return STATE;
        }
        act(rained(now, place, k));
        return now.water.get(place);
    }

    int undo() {
        if (acts.isEmpty()) {
            return STATE;
        }
        now = acts.removeLast();
        return acts.size();
    }

    int judge(int n, int row) {
        if (out(n, 1, 8) || row < 0 || String.valueOf(row).length() > n) {
            return OUTSIDE;
        }
        String figures = String.format("%0" + n + "d", row);
        World w = now;
        for (int i = 0; i < n; i++) {
            int figure = figures.charAt(i) - '0';
            World next;
            if (figure == 6) {
                next = after(w, 1);
            } else if (figure > 6 || noDitch(figure)) {
                return i;
            } else {
                next = opened(w, w.open ^ 1 << figure);
            }
            if (!w.wet.keySet().containsAll(next.wet.keySet())) {
                return i;
            }
            w = next;
        }
        return NONE;
    }

    int behind(int place, int h, int what) {
        if (noPlace(place)) {
            return UNKNOWN;
        }
        if (out(h, 0, 12) || out(what, 0, 1)) {
            return OUTSIDE;
        }
        World w = after(now, h);
        return what == 0 ? w.water.get(place) : w.dung.getOrDefault(place, 0);
    }

    int by(int turning, int h, int what) {
        if (out(turning, 0, turnings() - 1) || out(h, 0, 12) || out(what, 0, 3)) {
            return OUTSIDE;
        }
        World w = after(opened(now, turning), h);
        return switch (what) {
            case 0 -> sum(w.dung);
            case 1 -> bits(w.wet.keySet());
            case 2 -> worth(w);
            default -> does(w) ? 1 : 0;
        };
    }

    private List<Integer> doing(int h) {
        List<Integer> all = new ArrayList<>();
        for (int turning = 0; turning < turnings(); turning++) {
            if (does(after(opened(now, turning), h))) {
                all.add(turning);
            }
        }
        return all;
    }

    private int turned(int turning) {
        return Integer.bitCount(turning ^ now.open);
    }

    private int fewest(List<Integer> all) {
        return all.stream().min((a, b) -> turned(a) != turned(b) ? turned(a) - turned(b) : a - b).orElse(NONE);
    }

    int once(int h, boolean many) {
        if (out(h, 0, 12)) {
            return OUTSIDE;
        }
        int best = fewest(doing(h));
        return best == NONE || !many ? best : turned(best);
    }

    int twice(int h, int t) {
        if (out(h, 0, 12) || out(t, 1, h)) {
            return OUTSIDE;
        }
        int fewest = 100;
        for (int first = 0; first < turnings(); first++) {
            World half = after(opened(now, first), t);
            for (int second = 0; second < turnings(); second++) {
                if (does(after(opened(half, second), h - t))) {
                    fewest = Math.min(fewest, turned(first) + Integer.bitCount(first ^ second));
                }
            }
        }
        return fewest == 100 ? NONE : fewest;
    }

    int richest(int h) {
        if (out(h, 0, 12)) {
            return OUTSIDE;
        }
        int best = NONE;
        for (int turning : doing(h)) {
            if (best == NONE || by(turning, h, 2) > by(best, h, 2)) {
                best = turning;
            }
        }
        return best;
    }

    int barred(int h) {
        if (out(h, 0, 12)) {
            return OUTSIDE;
        }
        for (int p = 0; p < told.places.size(); p++) {
            boolean clean = told.places.get(p).kind != 'S';
            for (int turning = 0; turning < turnings(); turning++) {
                clean |= after(opened(now, turning), h).dung.getOrDefault(p, 0) == 0;
            }
            if (!clean) {
                return p;
            }
        }
        return NONE;
    }

    int free(int ditch, int h) {
        if (noDitch(ditch)) {
            return UNKNOWN;
        }
        if (out(h, 0, 12)) {
            return OUTSIDE;
        }
        return (int) doing(h).stream().filter(t -> (t & 1 << ditch) != 0).count();
    }

    int stuck(int ditch, int h) {
        if (noDitch(ditch)) {
            return UNKNOWN;
        }
        if (out(h, 0, 12)) {
            return OUTSIDE;
        }
        List<Integer> all = doing(h);
        int loose = fewest(all);
        all.removeIf(t -> ((t ^ now.open) & 1 << ditch) != 0);
        int held = fewest(all);
        return held == NONE ? NONE : turned(held) - turned(loose);
    }

    private static int told(BigInteger above, BigInteger below, boolean upper) {
        BigInteger g = above.gcd(below);
        return (upper ? above : below).divide(g).intValueExact();
    }

    private List<Integer> dams() {
        List<Integer> dams = new ArrayList<>();
        for (int p = 0; p < told.places.size(); p++) {
            if (told.places.get(p).kind == 'D') {
                dams.add(p);
            }
        }
        return dams;
    }

    int share(int place, int h, boolean upper) {
        if (noPlace(place)) {
            return UNKNOWN;
        }
        if (out(h, 0, 12)) {
            return OUTSIDE;
        }
        if (told.places.get(place).kind != 'D') {
            return STATE;
        }
        List<Integer> orders = new ArrayList<>();
        overOrders(new ArrayList<>(), dams(), place, h, orders);
        long sum = orders.stream().mapToLong(Integer::longValue).sum();
        return told(BigInteger.valueOf(sum), BigInteger.valueOf(orders.size()), upper);
    }

    private void overOrders(List<Integer> come, List<Integer> away, int place, int h, List<Integer> found) {
        if (come.contains(place)) {
            // What comes behind the dam does not change what it adds: count those orders at once.
            int less = leftWithout(withOne(away, place), h) - leftWithout(away, h);
            int orders = 1;
            for (int i = 2; i <= away.size(); i++) {
                orders *= i;
            }
            for (int i = 0; i < orders; i++) {
                found.add(less);
            }
            return;
        }
        for (Integer dam : away) {
            List<Integer> rest = new ArrayList<>(away);
            rest.remove(dam);
            overOrders(withOne(come, dam), rest, place, h, found);
        }
    }

    private static List<Integer> withOne(List<Integer> list, int one) {
        List<Integer> more = new ArrayList<>(list);
        more.add(one);
        return more;
    }

    private int leftWithout(List<Integer> silent, int h) {
        World w = now;
        for (int i = 0; i < h; i++) {
            w = after(w, silent);
        }
        return sum(w.dung);
    }

    int chance(int x, int h, boolean upper) {
        if (out(x, 0, 10) || out(h, 0, 12)) {
            return OUTSIDE;
        }
        return overRain(now, dams(), x, h, false, upper);
    }

    int mean(int x, int h, boolean upper) {
        if (out(x, 0, 10) || out(h, 0, 12)) {
            return OUTSIDE;
        }
        return overRain(now, dams(), x, h, true, upper);
    }

    private int overRain(World w, List<Integer> dams, int x, int h, boolean dung, boolean upper) {
        return told(weighed(w, dams, x, h, dung), BigInteger.TEN.pow(dams.size()), upper);
    }

    private BigInteger weighed(World w, List<Integer> dams, int x, int h, boolean dung) {
        if (dams.isEmpty()) {
            World end = after(w, h);
            return BigInteger.valueOf(dung ? sum(end.dung) : does(end) ? 1 : 0);
        }
        List<Integer> rest = dams.subList(1, dams.size());
        BigInteger rain = weighed(rained(w, dams.get(0), 1), rest, x, h, dung);
        BigInteger none = weighed(w, rest, x, h, dung);
        return rain.multiply(BigInteger.valueOf(x)).add(none.multiply(BigInteger.valueOf(10 - x)));
    }

    int see(int place, int t, int k) {
        if (noPlace(place)) {
            return UNKNOWN;
        }
        if (out(t, 0, 12) || out(k, 0, 99)) {
            return OUTSIDE;
        }
        if (sights.size() == 6) {
            return FULL;
        }
        sights.add(new Sight(place, t, k));
        return sights.size();
    }

    int unsee() {
        int size = sights.size();
        sights.clear();
        return size;
    }

    int fit(int what) {
        if (out(what, 0, 2)) {
            return OUTSIDE;
        }
        List<Integer> all = new ArrayList<>();
        for (int turning = 0; turning < turnings(); turning++) {
            World w = opened(now, turning);
            if (sights.stream().allMatch(s -> noPlace(s.place) || after(w, s.time).water.get(s.place) == s.buckets)) {
                all.add(turning);
            }
        }
        if (what == 0) {
            return all.size();
        }
        if (all.isEmpty()) {
            return NONE;
        }
        int bits = 0;
        for (int d = 0; d < told.ditches.size(); d++) {
            int ditch = d;
            boolean in = what == 1 ? all.stream().allMatch(t -> (t & 1 << ditch) != 0)
                    : all.stream().noneMatch(t -> (t & 1 << ditch) != 0);
            bits |= in ? 1 << d : 0;
        }
        return bits;
    }

    int kings(int place, int n, boolean first) {
        if (noPlace(place)) {
            return UNKNOWN;
        }
        if (out(n, 1, 4)) {
            return OUTSIDE;
        }
        if (told.places.get(place).kind != 'S') {
            return STATE;
        }
        int[] best = play(now, place, n, true);
        return best[first ? 1 : 0];
    }

    /** What is left, and the least best move. */
    private int[] play(World w, int place, int n, boolean lessWanted) {
        if (n == 0) {
            return new int[] {w.dung.get(place), 0};
        }
        int[] best = null;
        for (int move = 0; move <= told.ditches.size(); move++) {
            World moved = move == 0 ? w : opened(w, w.open ^ 1 << (move - 1));
            int left = play(after(moved, 1), place, n - 1, !lessWanted)[0];
            if (best == null || (lessWanted ? left < best[0] : left > best[0])) {
                best = new int[] {left, move};
            }
        }
        return best;
    }

    long seed(long v) {
        long old = seed;
        seed = v;
        return old;
    }

    int days(int m) {
        if (out(m, 1, 40)) {
            return OUTSIDE;
        }
        if (told.places.isEmpty()) {
            return 0;
        }
        BigInteger all = BigInteger.ONE.shiftLeft(64);
        BigInteger x = BigInteger.valueOf(seed).mod(all);
        World w = now;
        for (int i = 0; i < m; i++) {
            x = x.multiply(new BigInteger("6364136223846793005")).add(new BigInteger("1442695040888963407")).mod(all);
            int p = x.shiftRight(33).mod(BigInteger.valueOf(told.places.size())).intValue();
            if (told.places.get(p).kind == 'D' && w.water.get(p) < 99) {
                w = rained(w, p, 1);
            }
            w = after(w, 1);
        }
        seed = x.longValue();
        return sum(w.dung) + 100 * w.wet.size();
    }

    int keep(int slot) {
        if (out(slot, 0, 1)) {
            return UNKNOWN;
        }
        slots[slot] = now;
        return now.hour;
    }

    int again(int slot) {
        if (out(slot, 0, 1)) {
            return UNKNOWN;
        }
        if (slots[slot] == null) {
            return STATE;
        }
        now = slots[slot];
        acts.clear();
        return now.hour;
    }

    int count(int what) {
        return switch (what) {
            case 0 -> text.length();
            case 1 -> told.places.size();
            case 2 -> told.ditches.size();
            case 3 -> now.hour;
            case 4 -> now.open;
            case 5 -> sum(now.dung);
            case 6 -> sum(now.water);
            case 7 -> bits(now.wet.keySet());
            case 8 -> worth(now);
            case 9 -> acts.size();
            case 10 -> sights.size();
            default -> OUTSIDE;
        };
    }
}
