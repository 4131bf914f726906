import java.io.IOException;
import java.lang.reflect.Constructor;
import java.lang.reflect.Field;
import java.lang.reflect.Method;
import java.lang.reflect.Modifier;
import java.nio.file.Files;
import java.util.Arrays;
import java.util.Set;
import java.util.TreeSet;
import java.util.regex.Matcher;
import java.util.regex.Pattern;

/** The face of the class, and what of LANGUAGE.md can be seen from the source and the compiled classes. */
final class LanguageTest {
    private static final String[] FACE = {
        "int write(int)", "int wipe()", "int fault()", "int land()", "int place(int,int)", "int ditch(int,int)",
        "int hour()", "int turn(int)", "int rain(int,int)", "int undo()", "int judge(int,int)",
        "int behind(int,int,int)", "int by(int,int,int)", "int once(int,boolean)", "int twice(int,int)",
        "int richest(int)", "int barred(int)", "int free(int,int)", "int stuck(int,int)",
        "int share(int,int,boolean)", "int chance(int,int,boolean)", "int mean(int,int,boolean)",
        "int see(int,int,int)", "int unsee()", "int fit(int)", "int kings(int,int,boolean)", "long seed(long)",
        "int days(int)", "int keep(int)", "int again(int)", "int count(int)"};
    private static final String[] FORBIDDEN = {
        "throw", "try", "catch", "synchronized", "assert", "import", "->", "::", "package", "protected",
        "System", "Thread", "Random", "double", "float", "Object", "hashCode", "equals", "toString"};

    private LanguageTest() {
    }

    public static void main(String[] args) throws IOException {
        theFace();
        theConstants();
        theClassesInside();
        theWords(withoutComments(Files.readString(Project.MAIN)));
        Check.end("LanguageTest");
    }

    private static void theFace() {
        Set<String> names = new TreeSet<>();
        Set<String> seen = new TreeSet<>();
        for (Method m : StableRivers.class.getDeclaredMethods()) {
            if (Modifier.isPublic(m.getModifiers())) {
                names.add(m.getName());
                seen.add(m.getReturnType() + " " + m.getName()
                        + Arrays.toString(m.getParameterTypes()).replace(", ", ",").replace("[", "(").replace("]", ")"));
            }
        }
        Check.isTrue("public methods are " + seen, seen.equals(new TreeSet<>(Arrays.asList(FACE))));
        for (Method m : StableRivers.class.getDeclaredMethods()) {
            boolean open = Modifier.isPublic(m.getModifiers());
            Check.isTrue(m + " is private", open || Modifier.isPrivate(m.getModifiers()));
            Check.isTrue(m + " bears no public name", open || !names.contains(m.getName()));
        }
        Check.isTrue("the class is public and final", Modifier.isPublic(StableRivers.class.getModifiers())
                && Modifier.isFinal(StableRivers.class.getModifiers()));
        Constructor<?>[] makers = StableRivers.class.getDeclaredConstructors();
        Check.due("constructors", makers.length, 1);
        Check.isTrue("public, without arguments", Modifier.isPublic(makers[0].getModifiers())
                && makers[0].getParameterCount() == 0);
        for (Class<?> inside : StableRivers.class.getDeclaredClasses()) {
            for (Method m : inside.getDeclaredMethods()) {
                Check.isTrue(m + " bears no public name", !names.contains(m.getName()));
            }
        }
    }

    private static void theConstants() {
        Set<String> seen = new TreeSet<>();
        for (Field f : StableRivers.class.getDeclaredFields()) {
            boolean open = Modifier.isPublic(f.getModifiers());
            Check.isTrue(f + " is private", open || Modifier.isPrivate(f.getModifiers()));
            Check.isTrue(f + " is final, if static", !Modifier.isStatic(f.getModifiers())
                    || Modifier.isFinal(f.getModifiers()));
            if (open) {
                seen.add(f.getName());
            }
        }
        Check.isTrue("constants are " + seen, seen.equals(Set.of("UNKNOWN", "OUTSIDE", "STATE", "FULL", "NONE")));
        Check.due("UNKNOWN", StableRivers.UNKNOWN, -1);
        Check.due("OUTSIDE", StableRivers.OUTSIDE, -2);
        Check.due("STATE", StableRivers.STATE, -3);
        Check.due("FULL", StableRivers.FULL, -4);
        Check.due("NONE", StableRivers.NONE, -9);
    }

    private static void theClassesInside() {
        Class<?>[] inside = StableRivers.class.getDeclaredClasses();
        Check.isTrue("at most some twelve classes", inside.length <= 11);
        for (Class<?> c : inside) {
            Check.isTrue(c + " is static", Modifier.isStatic(c.getModifiers()));
            Check.isTrue(c + " is not public", !Modifier.isPublic(c.getModifiers()));
            manyFields(c);
        }
        manyFields(StableRivers.class);
    }

    private static void manyFields(Class<?> c) {
        long fields = Arrays.stream(c.getDeclaredFields()).filter(f -> !Modifier.isStatic(f.getModifiers())).count();
        Check.isTrue(c + " has some twenty fields at most", fields <= 20);
        for (Method m : c.getDeclaredMethods()) {
            Check.isTrue(m + " takes seven at most", m.getParameterCount() <= 7);
        }
    }

    private static String withoutComments(String source) {
        return source.replaceAll("(?s)/\\*.*?\\*/", " ").replaceAll("//[^\n]*", " ");
    }

    private static void theWords(String code) {
        for (String word : FORBIDDEN) {
            boolean letters = Character.isLetter(word.charAt(0));
            Pattern p = Pattern.compile(letters ? "\\b" + word + "\\b" : Pattern.quote(word));
            Check.isTrue("no " + word + " in the class", !p.matcher(code).find());
        }
        Matcher library = Pattern.compile("\\b(Math|Integer|Long)\\.(\\w+)").matcher(code);
        while (library.find()) {
            Check.isTrue(library.group() + " is as told",
                    Set.of("min", "max", "abs", "bitCount").contains(library.group(2)));
        }
        // Rows are made once, in fields and constructors: 8 blanks and a new only stand in those.
        Matcher makes = Pattern.compile("(?m)^(.*)\\bnew\\b.*$").matcher(code);
        while (makes.find()) {
            String line = makes.group(1);
            Check.isTrue("made in a field or a constructor: " + line,
                    line.matches(".*(private|final) .*= ") || line.matches(".*(slots|turns|ahead)\\[i\\] = "));
        }
    }
}
