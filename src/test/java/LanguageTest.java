import java.io.IOException;
import java.lang.management.ManagementFactory;
import java.lang.reflect.Field;
import java.lang.reflect.Method;
import java.lang.reflect.Modifier;
import java.nio.charset.StandardCharsets;
import java.nio.file.Files;
import java.nio.file.Path;
import java.util.Set;
import java.util.TreeSet;
import java.util.regex.Matcher;
import java.util.regex.Pattern;

/** What can be seen of LANGUAGE.md: in the source, in the compiled classes, and in what runs take. */
public final class LanguageTest {
    private static final String SOURCE = "src/main/java/WindPark.java";
    private static final String[] FORBIDDEN = {"import", "package", "finally", "try", "catch", "throw", "throws",
        "synchronized", "assert", "volatile", "transient", "native", "protected", "var", "yield", "record", "enum",
        "interface", "Double", "Float", "Object", "Integer", "Long", "Arrays", "List", "ArrayList", "equals",
        "hashCode", "toString", "NaN", "sqrt", "long\\[\\]\\[\\]", "\\w+Exact", "->", "::", "@\\w+"};
    private static final String FACE = "row grid cradle part set clear holds put get putAt getAt link lay lift copy"
        + " length alike ask told traced forget seconds test step drop act acted said place read wind bound run reset"
        + " of finding why count";

    private static int wrong = 0;

    private LanguageTest() {
    }

    private static void due(int rule, String what, boolean is) {
        if (!is) {
            wrong++;
            System.out.println("rule " + rule + ": " + what);
        }
    }

    public static void main(String[] args) throws IOException {
        String source = Files.readString(Path.of(SOURCE), StandardCharsets.ISO_8859_1);
        words(source);
        methods(source);
        face();
        classes();
        room();
        System.out.println(wrong == 0 ? "the language is kept to" : wrong + " rules are broken");
        if (wrong != 0) {
            System.exit(1);
        }
    }

    private static void words(String source) {
        due(4, "signs above 126", source.chars().allMatch(c -> c == '\n' || c >= 32 && c < 127));
        String code = source.replaceAll("(?s)/\\*.*?\\*/", "").replaceAll("//[^\n]*", "");
        for (String word : FORBIDDEN) {
            String bounded = Character.isLetter(word.charAt(0)) ? "\\b" + word + "(?!\\w)" : word;
            due(4, "not to be used: " + word, !Pattern.compile(bounded).matcher(code).find());
        }
        Matcher math = Pattern.compile("Math\\.(\\w+)").matcher(code);
        while (math.find()) {
            due(3, "Math." + math.group(1), Set.of("max", "min", "abs").contains(math.group(1)));
        }
    }

    /** By the layout of this file: a method's head stands at 4 or 8 blanks and ends with a brace. */
    private static void methods(String source) {
        String[] lines = source.split("\n");
        Pattern head = Pattern.compile("^( {4}| {8})[\\w\\[\\] ]+ \\w+\\(([^)]*)\\) \\{$|^( {4}| {8})\\w+\\(([^)]*)\\) \\{$");
        int found = 0;
        for (int i = 0; i < lines.length; i++) {
            Matcher m = head.matcher(lines[i]);
            if (!m.matches() || lines[i].trim().startsWith("return")) {
                continue;
            }
            found++;
            String indent = lines[i].substring(0, lines[i].length() - lines[i].stripLeading().length());
            String arguments = m.group(2) == null ? m.group(4) : m.group(2);
            due(11, "more than seven parameters: " + lines[i], arguments.split(",").length <= 7);
            int end = i + 1;
            while (end < lines.length && !lines[end].equals(indent + "}")) {
                end++;
            }
            due(11, "a long method: " + lines[i], end - i <= 60);
        }
        due(11, "methods that were looked at: " + found, found > 100);
    }

    private static void face() {
        Set<String> faces = new TreeSet<>(Set.of(FACE.split(" ")));
        Set<String> seen = new TreeSet<>();
        due(1, "public and final", Modifier.isPublic(WindPark.class.getModifiers())
            && Modifier.isFinal(WindPark.class.getModifiers()));
        for (Method m : WindPark.class.getDeclaredMethods()) {
            if (Modifier.isPublic(m.getModifiers())) {
                due(1, "one method of a name: " + m, seen.add(m.getName()));
            } else {
                due(1, "private: " + m, Modifier.isPrivate(m.getModifiers()));
                due(1, "a private method with a public name: " + m, !faces.contains(m.getName()));
            }
        }
        due(1, "the face: " + seen, seen.equals(faces));
        due(1, "constructors", WindPark.class.getDeclaredConstructors().length == 1);
        Set<String> constants = new TreeSet<>();
        for (Field f : WindPark.class.getDeclaredFields()) {
            if (Modifier.isPublic(f.getModifiers())) {
                constants.add(f.getName());
            } else {
                due(1, "private: " + f, Modifier.isPrivate(f.getModifiers()));
            }
        }
        due(1, "constants", constants.equals(Set.of("NONE", "UNKNOWN", "OUTSIDE", "STATE", "ROOM")));
    }

    private static void classes() {
        Class<?>[] inside = WindPark.class.getDeclaredClasses();
        due(11, "classes", inside.length <= 11);
        fields(WindPark.class);
        for (Class<?> c : inside) {
            due(2, "static and private: " + c, Modifier.isStatic(c.getModifiers()) && Modifier.isPrivate(c.getModifiers()));
            due(11, "no class inside: " + c, c.getDeclaredClasses().length == 0);
            fields(c);
            for (Method m : c.getDeclaredMethods()) {
                due(1, "a name of the face: " + m, !Set.of(FACE.split(" ")).contains(m.getName()));
                due(1, "not public: " + m, !Modifier.isPublic(m.getModifiers()));
            }
        }
    }

    private static void fields(Class<?> c) {
        int own = 0;
        Set<Class<?>> constant = Set.of(int.class, long.class, boolean.class, char.class, String.class, int[].class,
            long[].class, char[].class, byte[].class);
        for (Field f : c.getDeclaredFields()) {
            if (!Modifier.isStatic(f.getModifiers())) {
                own++;
                continue;
            }
            due(5, "final: " + f, Modifier.isFinal(f.getModifiers()));
            due(5, "a constant's type: " + f, constant.contains(f.getType()));
        }
        due(11, own + " fields of " + c, own <= 20);
    }

    /**
     * The room of one run is 600,000 objects, of 16 bytes at least; a tenth of that, counting the elements among it,
     * is far on the safe side.
     */
    private static void room() {
        com.sun.management.ThreadMXBean bean = (com.sun.management.ThreadMXBean) ManagementFactory.getThreadMXBean();
        long id = Thread.currentThread().getId();
        bean.getThreadAllocatedBytes(id);
        long before = bean.getThreadAllocatedBytes(id);
        WindPark x = new WindPark(6);
        for (int i = 0; i < 512; i++) {
            x.grid(i % 24, 8, 12);
        }
        long grids = bean.getThreadAllocatedBytes(id) - before;
        due(12, "the dearest call, 512 times: " + grids + " bytes", grids < 960000);
        before = bean.getThreadAllocatedBytes(id);
        for (int i = 0; i < 512; i++) {
            x.run(40);
            x.act(0);
            x.alike(0, 1);
            x.copy(0, 0, 1, 0, 8);
            x.seconds(2, 6, 3);
            x.of(0, 3);
        }
        long others = bean.getThreadAllocatedBytes(id) - before;
        due(12, "calls that make nothing: " + others + " bytes", others < 10000);
    }
}
