import java.io.IOException;
import java.lang.reflect.Constructor;
import java.lang.reflect.Field;
import java.lang.reflect.Method;
import java.lang.reflect.Modifier;
import java.nio.file.Files;
import java.nio.file.Path;
import java.util.ArrayList;
import java.util.Arrays;
import java.util.List;
import java.util.Map;
import java.util.Set;
import java.util.TreeMap;
import java.util.TreeSet;
import java.util.regex.Matcher;
import java.util.regex.Pattern;

/** The document's public face, and those rules of LANGUAGE.md that can be seen in the source or by reflection. */
public final class LanguageTest {
    private static final Path SOURCE = Path.of("src/main/java/LoafParts.java");
    private static final String FACE = "asked() at(int,int) back(int,int) bake(int) best() copy(int,int,int,int,int)"
        + " count(int) cut(int) digest() duel(int,int,int) dues(int) fault(int) finding() findings(int) give(int,int)"
        + " greedy(int) keep(int) kinds(int) lacks(int) lay(int,int,int) lots(int,int) lower() mark(int,int) mean(int)"
        + " mid(int,int) need() odds(int,int) on(int) poor() put(int,int,int) ready() row(int,int) serve(int)"
        + " table(int) takes(int,int) tear(int) test(int) text(int,int) undo(int) upper() ways(int) worker(int,int)"
        + " writes(int,int)";
    private static final Set<String> LONGS = Set.of("upper", "lower", "digest");
    private static final Set<String> FUNCTIONS = Set.of("Integer.bitCount", "Integer.numberOfTrailingZeros", "Math.max",
        "Math.min", "Math.floorDiv", "Math.floorMod", "Math.abs", "System.arraycopy");
    private static final String[] FORBIDDEN = {"\\bthrow\\b", "\\bthrows\\b", "\\btry\\b", "\\bcatch\\b",
        "\\bfinally\\b", "\\bsynchronized\\b", "\\bassert\\b", "\\bimport\\b", "\\bpackage\\b", "->", "::", "Exact\\(",
        "static\\s*\\{", "\\bvar\\b", "\\bvolatile\\b", "\\bprotected\\b", "\\bdouble\\b", "\\bfloat\\b", "@"};

    /** Indent, modifiers, what it gives (a constructor: nothing), name, parameters, body. */
    private static final Pattern METHOD = Pattern.compile("(?ms)^( {4}| {8})((?:public |private |static |final )*)"
        + "((?:\\w+(?:\\[\\])? )?)(\\w+)\\(([^)]*)\\) \\{\n(.*?)^\\1\\}$");

    public static void main(String[] args) {
        Tests.runAll(LanguageTest.class);
    }

    static void language_face(Run x) {
        Set<String> methods = new TreeSet<>();
        for (Method m : LoafParts.class.getDeclaredMethods()) {
            if (Modifier.isPublic(m.getModifiers())) {
                methods.add(m.getName() + Arrays.toString(m.getParameterTypes()).replace("[", "(").replace("]", ")")
                    .replace(" ", ""));
                x.is(m + " gives what it should", m.getReturnType() == (LONGS.contains(m.getName()) ? long.class
                    : int.class) ? 1 : 0, 1);
            } else {
                x.is(m + " is private", Modifier.isPrivate(m.getModifiers()) ? 1 : 0, 1);
            }
        }
        String got = String.join(" ", methods);
        x.is("the face " + got, got.equals(FACE) ? 1 : 0, 1);
        Constructor<?>[] makers = LoafParts.class.getDeclaredConstructors();
        x.is("constructors", makers.length, 1);
        x.is("the constructor is public", Modifier.isPublic(makers[0].getModifiers()) ? 1 : 0, 1);
        x.is("its parameters", makers[0].getParameterCount(), 0);
        x.is("the class is public and final", LoafParts.class.getModifiers(), Modifier.PUBLIC | Modifier.FINAL);
    }

    static void language_names(Run x) {
        Set<String> open = new TreeSet<>();
        for (Method m : LoafParts.class.getDeclaredMethods()) {
            if (Modifier.isPublic(m.getModifiers())) {
                open.add(m.getName());
            }
        }
        List<Class<?>> classes = new ArrayList<>(List.of(LoafParts.class.getDeclaredClasses()));
        x.is("some twelve classes", classes.size() <= 11 ? 1 : 0, 1);
        for (Class<?> c : classes) {
            x.is(c + " is static", Modifier.isStatic(c.getModifiers()) ? 1 : 0, 1);
            for (Method m : c.getDeclaredMethods()) {
                x.is(m + " has a name of its own", open.contains(m.getName()) ? 1 : 0, 0);
                x.is(m + " is not public", Modifier.isPublic(m.getModifiers()) ? 1 : 0, 0);
                x.is(m + " has few parameters", m.getParameterCount() <= 7 ? 1 : 0, 1);
            }
        }
        for (Method m : LoafParts.class.getDeclaredMethods()) {
            boolean hidden = !Modifier.isPublic(m.getModifiers());
            x.is(m + " has a name of its own", hidden && open.contains(m.getName()) ? 1 : 0, 0);
        }
    }

    static void language_fields(Run x) {
        List<Class<?>> classes = new ArrayList<>(List.of(LoafParts.class.getDeclaredClasses()));
        classes.add(LoafParts.class);
        for (Class<?> c : classes) {
            int own = 0;
            for (Field f : c.getDeclaredFields()) {
                boolean fixed = Modifier.isStatic(f.getModifiers());
                own += fixed ? 0 : 1;
                x.is(f + " is final, if static", fixed && !Modifier.isFinal(f.getModifiers()) ? 1 : 0, 0);
                if (c == LoafParts.class && !Modifier.isPrivate(f.getModifiers())) {
                    x.is(f + " is of the face", Set.of("BAD", "FULL", "FINDING", "STATE", "SPENT", "NONE")
                        .contains(f.getName()) ? 1 : 0, 1);
                }
            }
            x.is(c + " has some twenty fields", own <= 20 ? 1 : 0, 1);
        }
    }

    private static String code() throws IOException {
        return Files.readString(SOURCE).replaceAll("(?s)/\\*.*?\\*/", "").replaceAll("//[^\n]*", "");
    }

    static void language_words(Run x) throws IOException {
        String code = code();
        for (String word : FORBIDDEN) {
            Matcher m = Pattern.compile(word).matcher(code);
            x.is("the source has " + word, m.find() ? 1 : 0, 0);
        }
    }

    static void language_functions(Run x) throws IOException {
        String code = code();
        Matcher m = Pattern.compile("\\b(Integer|Long|Math|System|Arrays|String|Character|Byte)\\.(\\w+)").matcher(code);
        while (m.find()) {
            x.is(m.group() + " is listed", FUNCTIONS.contains(m.group()) ? 1 : 0, 1);
        }
    }

    private record Part(boolean maker, String name, String body) {
        String[] lines() {
            return body.split("\n");
        }
    }

    /** Methods and constructors: those of the class begin at four blanks, those of classes inside at eight. */
    private static List<Part> parts() throws IOException {
        List<Part> found = new ArrayList<>();
        Matcher m = METHOD.matcher(code());
        while (m.find()) {
            if (!Set.of("if", "for", "while", "switch").contains(m.group(4))) {
                found.add(new Part(m.group(3).isEmpty(), m.group(4), m.group(6)));
            }
        }
        return found;
    }

    /** The other tests by parts() look at every method, none is left out by its form. */
    static void language_partsAreAllThere(Run x) throws IOException {
        int there = 0;
        List<Class<?>> classes = new ArrayList<>(List.of(LoafParts.class.getDeclaredClasses()));
        classes.add(LoafParts.class);
        for (Class<?> c : classes) {
            for (Method m : c.getDeclaredMethods()) {
                there += m.isSynthetic() ? 0 : 1;
            }
        }
        x.is("methods", parts().stream().filter(part -> !part.maker).count(), there);
    }

    static void language_lengths(Run x) throws IOException {
        for (Part part : parts()) {
            x.is(part.name + " is short", part.lines().length <= 60 ? 1 : 0, 1);
        }
        for (String line : Files.readString(SOURCE).split("\n")) {
            x.is("not too long: " + line, line.length() <= 120 ? 1 : 0, 1);
        }
    }

    /** All calls of a run live in one room, so that no call makes anything: the constructors do. */
    static void language_callsMakeNothing(Run x) throws IOException {
        for (Part part : parts()) {
            x.is(part.name + " makes something", !part.maker && part.body.matches("(?s).*(\\bnew\\b|clone\\(|copyOf).*")
                ? 1 : 0, 0);
        }
    }

    /** A divisor is a number, a constant, or a name that the same method looks at; a counter begins above 0. */
    static void language_divisorsAreLookedAt(Run x) throws IOException {
        for (Part part : parts()) {
            Matcher m = Pattern.compile("[/%]=? *([^ ;,)]+(?:\\.\\w+)*)").matcher(part.body);
            while (m.find()) {
                String by = m.group(1);
                boolean looked = by.matches("[1-9]\\d*|[A-Z_]+") || Pattern.compile("(?<![\\w.])(?<![/%] )"
                    + Pattern.quote(by) + " (>|<=|==|!=) 0|for \\(int " + Pattern.quote(by) + " = (1|FIRST_PART);")
                    .matcher(part.body).find();
                x.is(part.name + " divides by " + by + ", which it looked at", looked ? 1 : 0, 1);
            }
        }
    }

    /** Calls that are no recursion: the longest way from a call of the face, itself counted. */
    static void language_depth(Run x) throws IOException {
        Map<String, Set<String>> calls = new TreeMap<>();
        for (Part part : parts()) {
            if (!part.maker) {
                calls.computeIfAbsent(part.name, name -> new TreeSet<>());
            }
        }
        for (Part part : parts()) {
            Matcher m = Pattern.compile("(\\w+)\\(").matcher(part.body);
            while (m.find() && !part.maker) {
                if (calls.containsKey(m.group(1)) && !m.group(1).equals(part.name)) {
                    calls.get(part.name).add(m.group(1));
                }
            }
        }
        for (String name : calls.keySet()) {
            x.is(name + " goes at most eight deep", depth(calls, name, 1) <= 8 ? 1 : 0, 1);
        }
    }

    /** Where methods call one another in a ring, it is deeper than all bounds. */
    private static int depth(Map<String, Set<String>> calls, String name, int above) {
        int most = 1;
        for (String next : calls.get(name)) {
            most = Math.max(most, above > 99 ? 99 : 1 + depth(calls, next, above + 1));
        }
        return most;
    }
}
