import java.lang.reflect.Field;
import java.lang.reflect.Method;
import java.lang.reflect.Modifier;
import java.nio.file.Files;
import java.nio.file.Path;
import java.util.ArrayList;
import java.util.List;
import java.util.Set;
import java.util.TreeSet;
import java.util.regex.Matcher;
import java.util.regex.Pattern;

/** The rules of LANGUAGE.md that the class itself and the words of its source can show. */
public final class LanguageTest {
    private static final Set<String> FACE = new TreeSet<>(Set.of("feed", "end", "schema", "load", "place", "rows",
            "size", "letter", "read", "all", "fits"));

    public static void main(String[] args) throws Exception {
        face();
        String source = Files.readString(Path.of("src/main/java/RecordTeller.java"));
        words(source);
        lengths(source);
        Check.done();
    }

    private static void face() {
        Class<?> c = RecordTeller.class;
        Check.due("constructors", c.getDeclaredConstructors().length + " " + c.getConstructors().length, "1 1");
        Set<String> methods = new TreeSet<>();
        for (Method m : c.getDeclaredMethods()) {
            if (Modifier.isPublic(m.getModifiers())) {
                methods.add(m.getName());
            } else {
                Check.due(m + " is private", Modifier.isPrivate(m.getModifiers()), true);
            }
        }
        Check.due("the face's methods", methods, FACE);
        Set<String> constants = new TreeSet<>();
        for (Field f : c.getDeclaredFields()) {
            if (Modifier.isPublic(f.getModifiers())) {
                constants.add(f.getName());
            } else {
                Check.due(f + " is private", Modifier.isPrivate(f.getModifiers()), true);
            }
        }
        Check.due("the face's constants", constants, "[EMPTY, FULL, NONE, UNRESOLVED]");
        Class<?>[] inside = c.getDeclaredClasses();
        Check.due("at most twelve classes: " + inside.length, inside.length < 12, true);
        for (Class<?> i : inside) {
            Check.due(i + " is private and static", Modifier.isPrivate(i.getModifiers()) && Modifier.isStatic(i.getModifiers()), true);
            inner(i);
        }
    }

    private static void inner(Class<?> i) {
        int fields = 0;
        for (Field f : i.getDeclaredFields()) {
            fields += Modifier.isStatic(f.getModifiers()) ? 0 : 1;
            Check.due(f + " may be static", !Modifier.isStatic(f.getModifiers()) || Modifier.isFinal(f.getModifiers()), true);
        }
        Check.due("at most twenty fields in " + i, fields <= 20, true);
        for (Method m : i.getDeclaredMethods()) {
            Check.due(m + " bears no name of the face", FACE.contains(m.getName()), false);
            Check.due(m + " has at most seven parameters", m.getParameterCount() <= 7, true);
        }
    }

    private static void words(String source) {
        String[] ruledOut = {"\\bimport\\b", "\\bpackage\\b", "->", "::", "\\bcatch\\b", "\\btry\\b", "\\bfinally\\b", "\\bsynchronized\\b",
            "\\bassert\\b", "Exact\\(", "\\bprotected\\b", "\\bvolatile\\b", "\\bhashCode\\b", "\\btoString\\b", "\\bequals\\b",
            "\\bdouble\\b", "\\bfloat\\b", "\\bObject\\b", "System\\.(?!arraycopy)", "\\bThread\\b", "\\bgetMessage\\b", "\\bwhile\\b",
            "[^\\x00-\\x7f]"};
        for (String word : ruledOut) {
            Check.due("the source has " + word, Pattern.compile(word).matcher(source).find(), false);
        }
        Matcher thrown = Pattern.compile("throw (.*)").matcher(source);
        while (thrown.find()) {
            Check.due("thrown: " + thrown.group(1), thrown.group(1).matches(
                    "new (IllegalState|IllegalArgument|IndexOutOfBounds)Exception\\(\\);"), true);
        }
        Matcher divided = Pattern.compile("[/%] ([A-Za-z_.0-9]+)").matcher(source.replaceAll("(?m)//.*|/\\*(?s:.*?)\\*/", ""));
        while (divided.find()) {
            Check.due("divided by " + divided.group(1), Set.of("2", "10", "Schema.NODES").contains(divided.group(1)), true);
        }
    }

    private static void lengths(String source) {
        List<String> lines = new ArrayList<>(source.lines().toList());
        int start = -1;
        for (int i = 0; i < lines.size(); i++) {
            String line = lines.get(i);
            boolean head = line.matches("^(    |        )[A-Za-z].*\\) (throws .*)?\\{$");
            if (head) {
                start = i;
            }
            if (start >= 0 && line.matches("^(    |        )\\}$")) {
                Check.due(lines.get(start).trim() + " has at most 60 lines", i - start + 1 <= 60, true);
                start = -1;
            }
            Check.due("line " + (i + 1) + " has at most 120 signs", line.length() <= 120, true);
        }
    }
}
