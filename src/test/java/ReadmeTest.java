import java.io.IOException;
import java.lang.reflect.Method;
import java.lang.reflect.Modifier;
import java.nio.charset.StandardCharsets;
import java.nio.file.Files;
import java.nio.file.Path;
import java.util.List;
import java.util.regex.Matcher;
import java.util.regex.Pattern;
import java.util.stream.Collectors;
import java.util.stream.Stream;

/** That README.md tells the truth: its example is run, and it must name every call of the face and every test. */
public final class ReadmeTest {
    private static final Pattern MAKE = Pattern.compile("WindPark park = new WindPark\\((-?\\d+)\\);");
    private static final Pattern CALL = Pattern.compile("(Double\\.longBitsToDouble\\()?park\\.(\\w+)\\((.*?)\\)\\)?;"
        + " +// (-?\\d+(?:\\.\\d+)?)\\b.*");
    private static final Pattern BITS = Pattern.compile("Double\\.doubleToLongBits\\((.*?)\\)");

    private static int wrong = 0;

    private ReadmeTest() {
    }

    private static void due(String what, boolean is) {
        if (!is) {
            wrong++;
            System.out.println("README.md: " + what);
        }
    }

    public static void main(String[] args) throws IOException {
        String readme = Files.readString(Path.of("README.md"), StandardCharsets.UTF_8);
        example(readme);
        face(readme);
        tests(readme);
        System.out.println(wrong == 0 ? "the page tells the truth" : wrong + " rows of the page are wrong");
        if (wrong != 0) {
            System.exit(1);
        }
    }

    private static void example(String readme) {
        Matcher block = Pattern.compile("(?s)```java\n(.*?)```").matcher(readme);
        if (!block.find()) {
            due("no example", false);
            return;
        }
        WindPark park = null;
        int calls = 0;
        for (String row : block.group(1).split("\n")) {
            Matcher make = MAKE.matcher(row);
            Matcher call = CALL.matcher(withBits(row));
            if (make.matches()) {
                park = new WindPark(Integer.parseInt(make.group(1)));
            } else if (call.matches() && park != null) {
                calls++;
                long got = ParkCalls.call(park, call.group(2), numbers(call.group(3)));
                boolean asDouble = call.group(1) != null;
                String told = asDouble ? String.valueOf(Double.longBitsToDouble(got)) : String.valueOf(got);
                due(row + " answered " + told, told.equals(call.group(4)));
            } else {
                due("not understood: " + row, row.isEmpty() || row.startsWith("//"));
            }
        }
        due("an example of " + calls + " calls", calls >= 20);
    }

    private static String withBits(String row) {
        return BITS.matcher(row).replaceAll(m ->
            String.valueOf(Double.doubleToLongBits(Double.parseDouble(m.group(1)))));
    }

    private static long[] numbers(String arguments) {
        if (arguments.isEmpty()) {
            return new long[0];
        }
        String[] parts = arguments.split(", ");
        long[] numbers = new long[parts.length];
        for (int i = 0; i < parts.length; i++) {
            numbers[i] = parts[i].equals("true") ? 1 : parts[i].equals("false") ? 0 : Long.parseLong(parts[i]);
        }
        return numbers;
    }

    /** Each call stands in the table with as many arguments as it has; each constant with its value. */
    private static void face(String readme) {
        for (Method m : WindPark.class.getDeclaredMethods()) {
            if (Modifier.isPublic(m.getModifiers())) {
                String arguments = Stream.of(m.getParameters()).map(p -> "\\w+").collect(Collectors.joining(", "));
                String call = "`" + m.getName() + "\\(" + arguments + "\\)`";
                due("does not name " + m, Pattern.compile(call).matcher(readme).find());
            }
        }
        String[] names = {"NONE", "UNKNOWN", "OUTSIDE", "STATE", "ROOM"};
        int[] values = {WindPark.NONE, WindPark.UNKNOWN, WindPark.OUTSIDE, WindPark.STATE, WindPark.ROOM};
        String unwrapped = readme.replace('\n', ' ');
        for (int i = 0; i < names.length; i++) {
            due("does not name " + names[i], unwrapped.contains("`" + names[i] + "` (" + values[i] + ")"));
        }
    }

    private static void tests(String readme) throws IOException {
        due("does not say how to run the tests", readme.contains(".ci/run"));
        List<Path> files;
        try (Stream<Path> all = Files.list(Path.of("src/test/java"))) {
            files = all.collect(Collectors.toList());
        }
        for (Path file : files) {
            String name = file.getFileName().toString().replace(".java", "");
            due("does not name " + name, readme.contains("`" + name + "`"));
        }
    }
}
