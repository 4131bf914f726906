import java.lang.reflect.InvocationTargetException;
import java.lang.reflect.Method;
import java.util.ArrayList;
import java.util.Arrays;
import java.util.Comparator;
import java.util.List;
import java.util.Set;

/**
 * Every call of the face with all edges of its arguments at once, so that all refusals meet, in states from
 * empty to full, on the class and on the Oracle; and what is refused has changed nothing.
 */
final class SweepTest {
    private static final int LEAST = Integer.MIN_VALUE, MOST = Integer.MAX_VALUE;
    private static final Object[] NUMBERS = {LEAST, -64, -1, 0, 1, 2, 3, 4, 5, 6, 8, 9, 10, 11, 12, 13, 32, 40, 41, 63, 64,
        99, 100, 255, 256, 99999999, 100000000, MOST};
    /** Two turnings are dear to the Oracle. */
    private static final Object[] FEW_NUMBERS = {LEAST, -1, 0, 1, 2, 3, 12, 13, MOST};
    private static final Object[] LONGS = {Long.MIN_VALUE, -1L, 0L, 1L, Long.MAX_VALUE};
    private static final Object[] FLAGS = {true, false};
    private static final Set<String> CHANGING = Set.of("write", "wipe", "land", "hour", "turn", "rain", "undo", "see",
            "unsee", "seed", "days", "keep", "again");

    /** A call by name, so that it can be made on the class and on the Oracle. */
    private record Named(String name, Object... arguments) {
        long on(Object target) {
            for (Method m : target.getClass().getDeclaredMethods()) {
                if (m.getName().equals(name) && m.getReturnType() != void.class
                        && m.getParameterCount() == arguments.length) {
                    return invoked(m, target);
                }
            }
            throw new IllegalStateException("no " + name);
        }

        private long invoked(Method m, Object target) {
            try {
                return ((Number) m.invoke(target, arguments)).longValue();
            } catch (InvocationTargetException e) {
                throw new IllegalStateException(this + " has thrown", e.getCause());
            } catch (IllegalAccessException e) {
                throw new IllegalStateException(e);
            }
        }

        @Override
        public String toString() {
            return name + Arrays.toString(arguments);
        }
    }

    private final String state;
    private final List<Named> story;
    private StableRivers rivers;
    private Oracle oracle;
    private int calls;

    private SweepTest(String state, List<Named> story) {
        this.state = state;
        this.story = story;
    }

    public static void main(String[] args) {
        new SweepTest("at first", List.of()).sweep();
        new SweepTest("places alone", on("RD99S9M9T")).sweep();
        new SweepTest("one ditch", on("RD91S9C010")).sweep();
        new SweepTest("six and six", on("RD73S5M4TD91S2C011C121C130C451C521C050")).sweep();
        new SweepTest("busy", busy()).sweep();
        new SweepTest("a full text", full()).sweep();
        new SweepTest("dams of 99", floods()).sweep();
        Check.end("SweepTest");
    }

    private static List<Named> on(String text) {
        List<Named> calls = new ArrayList<>();
        for (char letter : text.toCharArray()) {
            calls.add(new Named("write", (int) letter));
        }
        calls.add(new Named("land"));
        return calls;
    }

    private static List<Named> busy() {
        List<Named> calls = on("RD73D42S5TS9M2C021C120C231C240C450C141");
        for (int i = 0; i < 5; i++) {
            calls.add(new Named("hour"));
            calls.add(new Named("keep", i % 2));
            calls.add(new Named("turn", i));
            calls.add(new Named("rain", i % 2, i + 1));
        }
        for (int i = 0; i < 6; i++) {
            calls.add(new Named("see", 5, 0, 0));
        }
        calls.add(new Named("seed", Long.MAX_VALUE));
        return calls;
    }

    private static List<Named> full() {
        List<Named> calls = on("RD11TC011");
        for (int i = 9; i < 48; i++) {
            calls.add(new Named("write", 255));
        }
        calls.add(new Named("hour"));
        return calls;
    }

    private static List<Named> floods() {
        List<Named> calls = on("RD99D99S9TC010C121");
        for (int i = 0; i < 10; i++) {
            calls.add(new Named("rain", 0, 9));
            calls.add(new Named("rain", 1, 9));
        }
        calls.add(new Named("turn", 0));
        calls.add(new Named("hour"));
        return calls;
    }

    private void sweep() {
        Method[] face = StableRivers.class.getDeclaredMethods();
        Arrays.sort(face, Comparator.comparing(Method::getName));
        for (Method m : face) {
            if (java.lang.reflect.Modifier.isPublic(m.getModifiers())) {
                makeAnew();
                edges(m, new Object[m.getParameterCount()], 0);
            }
        }
    }

    private void makeAnew() {
        rivers = new StableRivers();
        oracle = new Oracle();
        for (Named call : story) {
            Check.due(state + ", " + call, call.on(rivers), call.on(oracle));
        }
        calls = story.size();
    }

    private void edges(Method m, Object[] arguments, int at) {
        if (at == arguments.length) {
            ask(new Named(m.getName(), arguments.clone()));
            return;
        }
        Class<?> type = m.getParameterTypes()[at];
        Object[] values = type == boolean.class ? FLAGS : type == long.class ? LONGS
                : m.getName().equals("twice") ? FEW_NUMBERS : NUMBERS;
        for (Object value : values) {
            arguments[at] = value;
            edges(m, arguments, at + 1);
        }
    }

    private void ask(Named call) {
        long got = call.on(rivers);
        calls++;
        Check.due(state + ", " + call, got, call.on(oracle));
        boolean changed = CHANGING.contains(call.name) && (got >= 0 || call.name.equals("seed"));
        // What is refused changes nothing, so the same object is asked on; at last it must still be alike.
        if (changed || calls >= Story.MOST_CALLS - 80) {
            compare(call);
            makeAnew();
        }
    }

    /** Both are alike in all that can be asked at once. */
    private void compare(Named call) {
        for (int what = 0; what <= 10; what++) {
            Check.due(state + ", behind " + call + " count(" + what + ")", rivers.count(what), oracle.count(what));
        }
        for (int i = 0; i < 6; i++) {
            for (int what = 0; what <= 5; what++) {
                Check.due(state + ", behind " + call + " place", rivers.place(i, what), oracle.place(i, what));
            }
            for (int what = 0; what <= 2; what++) {
                Check.due(state + ", behind " + call + " ditch", rivers.ditch(i, what), oracle.ditch(i, what));
            }
        }
        Check.due(state + ", behind " + call + " fault", rivers.fault(), oracle.fault());
        Check.due(state + ", behind " + call + " fit", rivers.fit(0), oracle.fit(0));
        Check.due(state + ", behind " + call + " seed", rivers.seed(0), oracle.seed(0));
        Check.due(state + ", behind " + call + " again", rivers.again(0), oracle.again(0));
        Check.due(state + ", behind " + call + " again", rivers.again(1), oracle.again(1));
    }
}
