import java.io.ByteArrayOutputStream;
import java.io.IOException;
import java.io.PrintStream;
import java.lang.reflect.Field;
import java.lang.reflect.Method;
import java.lang.reflect.Modifier;
import java.nio.charset.StandardCharsets;
import java.nio.file.Files;
import java.nio.file.Path;
import java.util.List;
import java.util.Set;
import java.util.TreeSet;
import java.util.regex.Matcher;
import java.util.regex.Pattern;
import java.util.stream.Collectors;
import java.util.stream.Stream;

/** What README.md shows and names is what there is. */
public final class ReadmeTest {
    public static void main(String[] args) throws Exception {
        String readme = Files.readString(Path.of("README.md")).replace("\r\n", "\n");
        Check.due("the example", blocks(readme, "java"), List.of(Files.readString(Path.of("src/test/java/Example.java")).replace("\r\n", "\n")));
        Check.due("what it prints", blocks(readme, "text"), List.of(printed()));
        namesTests(readme);
        namesFace(readme);
        Check.done();
    }

    private static List<String> blocks(String readme, String kind) {
        Matcher found = Pattern.compile("(?ms)^```" + kind + "\n(.*?)^```$").matcher(readme);
        return found.results().map(block -> block.group(1)).collect(Collectors.toList());
    }

    private static String printed() {
        PrintStream before = System.out;
        ByteArrayOutputStream caught = new ByteArrayOutputStream();
        System.setOut(new PrintStream(caught, true, StandardCharsets.UTF_8));
        try {
            Example.main(new String[0]);
        } finally {
            System.setOut(before);
        }
        return caught.toString(StandardCharsets.UTF_8).replace("\r\n", "\n");
    }

    private static void namesTests(String readme) throws IOException {
        Set<String> named = new TreeSet<>();
        Matcher found = Pattern.compile("`(\\w+Test)`").matcher(readme);
        while (found.find()) {
            named.add(found.group(1));
        }
        try (Stream<Path> files = Files.list(Path.of("src/test/java"))) {
            Set<String> there = files.map(file -> file.getFileName().toString()).filter(name -> name.endsWith("Test.java"))
                    .map(name -> name.replace(".java", "")).collect(Collectors.toCollection(TreeSet::new));
            Check.due("the tests that are named", named, there);
        }
    }

    /** Each call stands in the table with as many arguments as it has; each constant with its number. */
    private static void namesFace(String readme) throws IllegalAccessException {
        for (Method m : RecordTeller.class.getDeclaredMethods()) {
            if (Modifier.isPublic(m.getModifiers())) {
                Matcher row = Pattern.compile("(?m)^\\| `" + m.getName() + "\\((.*?)\\)` \\|").matcher(readme);
                boolean found = row.find();
                Check.due(m.getName() + " is told of", found, true);
                int told = !found || row.group(1).isEmpty() ? 0 : row.group(1).split(",").length;
                Check.due("arguments of " + m.getName(), told, m.getParameterCount());
            }
        }
        for (Field f : RecordTeller.class.getFields()) {
            Check.due(f.getName() + " is told of", readme.contains("`" + f.getName() + "` (" + f.getInt(null) + ")"), true);
        }
    }
}
