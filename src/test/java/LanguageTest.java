import java.io.IOException;
import java.lang.reflect.Constructor;
import java.lang.reflect.Field;
import java.lang.reflect.Method;
import java.lang.reflect.Modifier;
import java.nio.charset.StandardCharsets;
import java.nio.file.Files;
import java.nio.file.Path;
import java.util.ArrayList;
import java.util.List;
import java.util.Set;
import java.util.TreeSet;
import java.util.regex.Matcher;
import java.util.regex.Pattern;
import java.util.stream.Stream;

/**
 * Rules of ../shared/LANGUAGE.md, by their numbers, as far as they can be seen without going into
 * the methods, or from a word that has no place in the file.
 */
public final class LanguageTest {
    private static final Path FOLDER = Path.of("src/main/java");
    private static final Path FILE = FOLDER.resolve("RegistryLog.java");
    private static final int MOST_CLASSES = 12;
    private static final int MOST_PARAMETERS = 7;
    private static final int MOST_FIELDS = 20;
    private static final int MOST_LINES = 60;

    public static void main(String[] args) {
        Check.run(LanguageTest.class);
    }

    static void language_theProgram_isOneFile() throws IOException {
        try (Stream<Path> files = Files.walk(FOLDER)) {
            Check.due("the files", files.filter(Files::isRegularFile).toList().toString(),
                    List.of(FILE).toString());
        }
    }

    static void language_rule01_classesInside_areStaticAndNotPublic() {
        for (Class<?> one : RegistryLog.class.getDeclaredClasses()) {
            int how = one.getModifiers();
            Check.due(one + " is static", Modifier.isStatic(how), true);
            Check.due(one + " is public or protected",
                    Modifier.isPublic(how) || Modifier.isProtected(how), false);
        }
    }

    static void language_rule01_noOtherMethod_bearsAPublicOnesName() {
        Set<String> face = new TreeSet<>();
        for (Method method : RegistryLog.class.getDeclaredMethods()) {
            if (Modifier.isPublic(method.getModifiers())) {
                face.add(method.getName());
            }
        }
        Check.due("how many names the face has", face.size(), 23);
        for (Class<?> one : allClasses()) {
            for (Method method : one.getDeclaredMethods()) {
                if (!Modifier.isPublic(method.getModifiers())) {
                    Check.due(method + " bears a public one's name",
                            face.contains(method.getName()), false);
                }
            }
        }
    }

    static void language_rule02_noLambda_andNoMethodReference() throws IOException {
        String code = code();
        Check.due("an arrow", code.contains("->"), false);
        Check.due("two colons", code.contains("::"), false);
    }

    static void language_rule03_fields_haveTypesThatItLists() {
        Set<Class<?>> listed = Set.of(int.class, long.class, short.class, byte.class, char.class,
                boolean.class, String.class, StringBuilder.class);
        for (Class<?> one : allClasses()) {
            for (Field field : one.getDeclaredFields()) {
                Class<?> type = field.getType();
                Class<?> held = type.isArray() ? type.getComponentType() : type;
                Check.due(field + " is of a listed type",
                        listed.contains(held) || allClasses().contains(held), true);
            }
        }
    }

    static void language_rule04_nothing_isImported() throws IOException {
        for (String word : List.of("import", "package", "java", "System", "Object")) {
            hasNot(word);
        }
    }

    static void language_rule05_staticFields_areFinalConstants() {
        Set<Class<?>> listed =
                Set.of(int.class, long.class, boolean.class, char.class, String.class);
        for (Class<?> one : allClasses()) {
            for (Field field : one.getDeclaredFields()) {
                if (Modifier.isStatic(field.getModifiers())) {
                    Check.due(field + " is final", Modifier.isFinal(field.getModifiers()), true);
                    Check.due(field + " is a constant", listed.contains(field.getType()), true);
                }
            }
        }
    }

    static void language_rule06_nothing_isCaught() throws IOException {
        for (String word : List.of("try", "catch", "finally", "synchronized", "assert")) {
            hasNot(word);
        }
    }

    static void language_rule06_theDocumentsExceptionsAlone_areThrown() throws IOException {
        Matcher thrown = Pattern.compile("\\bthrow\\s+(.*?)\\(").matcher(code());
        Set<String> seen = new TreeSet<>();
        while (thrown.find()) {
            seen.add(thrown.group(1));
        }
        Check.due("what is thrown", seen.toString(),
                "[new IllegalArgumentException, new IllegalStateException]");
    }

    static void language_rule11_parameters_areAtMostSeven() {
        for (Class<?> one : allClasses()) {
            for (Method method : one.getDeclaredMethods()) {
                Check.due(method + " has few parameters",
                        method.getParameterCount() <= MOST_PARAMETERS, true);
            }
            for (Constructor<?> made : one.getDeclaredConstructors()) {
                Check.due(made + " has few parameters",
                        made.getParameterCount() <= MOST_PARAMETERS, true);
            }
        }
    }

    static void language_rule11_classesAndTheirFields_areFew() {
        Check.due("few classes", allClasses().size() <= MOST_CLASSES, true);
        for (Class<?> one : allClasses()) {
            int fields = 0;
            for (Field field : one.getDeclaredFields()) {
                fields += Modifier.isStatic(field.getModifiers()) ? 0 : 1;
            }
            Check.due(one + " has few fields", fields <= MOST_FIELDS, true);
        }
    }

    static void language_rule11_methods_areShort() throws IOException {
        List<String> lines = Files.readAllLines(FILE, StandardCharsets.UTF_8);
        int methods = 0;
        for (int i = 0; i < lines.size(); i++) {
            // Members stand four in, those of the classes inside eight.
            if (lines.get(i).matches(" {4}( {4})?}")) {
                int head = headOfBlock(lines, i);
                if (!lines.get(head).contains(" class ")) {
                    methods++;
                    Check.due("the method that ends at line " + (i + 1) + " is short",
                            i - head < MOST_LINES, true);
                }
            }
        }
        Check.due("methods were seen", methods > 50, true);
    }

    /** The line at which the block begins that ends at a line: the last one before, as far in. */
    private static int headOfBlock(List<String> lines, int end) {
        int in = lines.get(end).indexOf('}');
        int head = end - 1;
        while (head > 0 && !lines.get(head).matches(" {" + in + "}\\S.*")) {
            head--;
        }
        return head;
    }

    private static List<Class<?>> allClasses() {
        List<Class<?>> all = new ArrayList<>();
        all.add(RegistryLog.class);
        all.addAll(List.of(RegistryLog.class.getDeclaredClasses()));
        return all;
    }

    /** The file without its comments and written texts. */
    private static String code() throws IOException {
        return Files.readString(FILE, StandardCharsets.UTF_8)
                .replaceAll("(?s)/\\*.*?\\*/", " ")
                .replaceAll("//[^\n]*", " ")
                .replaceAll("\"[^\"\n]*\"", "\"\"");
    }

    private static void hasNot(String word) throws IOException {
        Pattern alone = Pattern.compile("\\b" + Pattern.quote(word) + "\\b");
        Check.due(word + " stands in the file", alone.matcher(code()).find(), false);
    }
}
