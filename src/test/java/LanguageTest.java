import java.lang.reflect.Constructor;
import java.lang.reflect.Field;
import java.lang.reflect.Method;
import java.lang.reflect.Modifier;
import java.nio.file.Files;
import java.nio.file.Path;
import java.util.ArrayList;
import java.util.Arrays;
import java.util.List;
import java.util.Map;
import java.util.Set;
import java.util.TreeMap;
import java.util.TreeSet;
import java.util.regex.Matcher;
import java.util.regex.Pattern;

/** The document's face and those rules of LANGUAGE.md that a look at the source or the class can tell. */
public final class LanguageTest {
    private static final Checks C = new Checks();
    private static final String FACE = """
        type int int int; wipe int int; undo int int; fault int int; house int int int; elbows int int; set int int int;
        leak int int int int; pinch int int int; back int int; read int int; bag int int int; got int int int int;
        held int int int; first int; quiet int; well int; elbow int int; shut int int int; least int; patch int int;
        seen int int int int; forget int; never int; was int int; starts int int; ask int int; moth long int int int;
        year int int int int; sheet int int int int; lose int int; put int int int int int; get int int int int;
        copy int int int int int int; write int int int; count int int; digest long""";

    public static void main(String[] args) throws Exception {
        String source = Files.readString(Path.of("src/main/java/TownBagpipes.java"));
        face();
        insideClasses();
        words(source);
        newOnlyInFields(source);
        methodLengths(source);
        callDepth(source);
        C.end();
    }

    private static void face() {
        Set<String> want = new TreeSet<>();
        for (String one : FACE.split(";")) want.add(one.strip());
        Set<String> have = new TreeSet<>();
        Set<String> names = new TreeSet<>();
        for (Method m : TownBagpipes.class.getDeclaredMethods()) {
            if (Modifier.isPrivate(m.getModifiers())) continue;
            StringBuilder one = new StringBuilder(m.getName()).append(' ').append(m.getReturnType());
            for (Class<?> p : m.getParameterTypes()) one.append(' ').append(p);
            have.add(one.toString());
            names.add(m.getName());
            C.due("public " + m.getName(), Modifier.isPublic(m.getModifiers()) ? 1 : 0, 1);
        }
        if (!want.equals(have)) C.fail("the face is " + have + ", due is " + want);
        int mods = TownBagpipes.class.getModifiers();
        C.due("public and final", Modifier.isPublic(mods) && Modifier.isFinal(mods) ? 1 : 0, 1);
        Constructor<?>[] made = TownBagpipes.class.getDeclaredConstructors();
        C.due("one constructor", made.length, 1);
        C.due("without arguments", made[0].getParameterCount(), 0);
        Set<String> constants = new TreeSet<>();
        for (Field f : TownBagpipes.class.getDeclaredFields()) {
            if (!Modifier.isPrivate(f.getModifiers())) constants.add(f.getName());
        }
        if (!constants.equals(Set.of("NONE", "BAD", "NOT", "FULL"))) C.fail("visible fields: " + constants);
        for (Class<?> c : classes()) {
            for (Method m : c.getDeclaredMethods()) {
                boolean own = Modifier.isPrivate(m.getModifiers());
                if (own && names.contains(m.getName())) C.fail("a private method bears the name " + m.getName());
                if (m.getParameterCount() > 7) C.fail(m.getName() + " takes too many");
            }
        }
    }

    private static List<Class<?>> classes() {
        List<Class<?>> all = new ArrayList<>(List.of(TownBagpipes.class));
        all.addAll(Arrays.asList(TownBagpipes.class.getDeclaredClasses()));
        return all;
    }

    private static void insideClasses() {
        C.due("at most twelve classes", classes().size() <= 12 ? 1 : 0, 1);
        for (Class<?> c : classes()) {
            int fields = 0;
            for (Field f : c.getDeclaredFields()) {
                if (!Modifier.isStatic(f.getModifiers())) {
                    fields++;
                } else if (!Modifier.isFinal(f.getModifiers())) {
                    C.fail("a static field that is not final: " + f.getName());
                }
            }
            C.due("at most twenty fields in " + c.getSimpleName(), fields <= 20 ? 1 : 0, 1);
            if (c != TownBagpipes.class && !Modifier.isStatic(c.getModifiers())) C.fail(c + " is not static");
        }
    }

    private static void words(String source) {
        String code = source.replaceAll("(?s)/\\*.*?\\*/", "").replaceAll("//.*", "");
        String[] refused = {"throw", "try", "catch", "synchronized", "assert", "import", "package", "protected", "var", "Object",
            "System\\.(?!arraycopy)", "static \\{", "->", "::", "Exact\\(", "@"};
        for (String word : refused) {
            String sought = Character.isLetter(word.charAt(0)) ? "\\b" + word + (word.endsWith("\\(") || word.endsWith(")") || word.endsWith("{") ? "" : "\\b") : word;
            Matcher m = Pattern.compile(sought).matcher(code);
            if (m.find()) C.fail("the source has " + word);
        }
        for (char c : source.toCharArray()) {
            if (c > 127) C.fail("a sign above 127 in the source");
        }
    }

    /** All rows are made with the object and used again, so a run's room does not grow with its calls. */
    private static void newOnlyInFields(String source) {
        for (String line : source.split("\n")) {
            boolean field = line.matches("\\s+private (final )?[\\w\\[\\]]+ \\w+ = new .*;");
            if (line.matches(".*\\bnew\\b.*=?.*[(\\[].*") && !line.strip().startsWith("/") && !field) C.fail("made in a call: " + line.strip());
        }
    }

    private static void methodLengths(String source) {
        String[] lines = source.split("\n");
        int from = -1;
        int seen = 0;
        String indent = "";
        for (int i = 0; i < lines.length; i++) {
            Matcher m = Pattern.compile("( {4}| {8})(public|private)[^=;]*\\(.*\\) \\{").matcher(lines[i]);
            if (m.matches()) {
                from = i;
                indent = m.group(1);
                seen++;
            } else if (from >= 0 && lines[i].equals(indent + "}")) {
                if (i - from + 1 > 60) C.fail("long: " + lines[from].strip());
                from = -1;
            }
        }
        C.due("methods were found", seen > 38 ? 1 : 0, 1);
    }

    /** Calls go at most eight deep, and none comes back to itself; a method is known by its name, so no two may share one. */
    private static void callDepth(String source) {
        Map<String, String> bodies = new TreeMap<>();
        Matcher m = Pattern.compile("(?ms)^( {4}| {8})(?:public|private)[^=;{]*?(\\w+)\\([^)]*\\) \\{\n(.*?)^\\1\\}").matcher(source);
        while (m.find()) {
            if (bodies.put(m.group(2), m.group(3)) != null) C.fail("two methods bear the name " + m.group(2));
        }
        C.due("bodies were found", bodies.size() > 38 ? 1 : 0, 1);
        for (String name : bodies.keySet()) {
            int deep = depth(bodies, name, 1);
            if (deep > 8) C.fail(name + " goes " + deep + " calls deep, or comes back to itself");
        }
    }

    private static int depth(Map<String, String> bodies, String name, int level) {
        int deepest = level;
        Matcher m = Pattern.compile("(?<!new )\\b(\\w+)\\(").matcher(bodies.get(name));
        // Nine levels are too deep already, so a circle is not followed further.
        while (level < 9 && m.find()) {
            if (bodies.containsKey(m.group(1))) deepest = Math.max(deepest, depth(bodies, m.group(1), level + 1));
        }
        return deepest;
    }
}
