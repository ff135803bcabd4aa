import java.io.IOException;
import java.nio.charset.StandardCharsets;
import java.nio.file.Files;
import java.nio.file.Path;
import java.util.ArrayList;
import java.util.List;
import java.util.regex.Matcher;
import java.util.regex.Pattern;

/** The java blocks of README.md, as one class, and the answers that they name. */
final class Readme {
    static final String CLASS = "ReadmeCalls";

    private static final String ARROW = "// ->";
    /** A call; then the answer, and behind a colon a remark, or none. */
    private static final Pattern ANSWERED =
            Pattern.compile("\\s*(\\S.*);\\s*// -> ([^:]*[^: ])(: .*)?");

    /** A call with the answer that README.md names for it. */
    record Shown(int line, String call, String answer) {
    }

    private final List<Shown> shown = new ArrayList<>();
    private final List<Integer> unread = new ArrayList<>();
    private final StringBuilder members = new StringBuilder();
    private final StringBuilder calls = new StringBuilder();

    static Readme read() throws IOException {
        return new Readme(Files.readAllLines(Path.of("README.md"), StandardCharsets.UTF_8));
    }

    Readme(List<String> lines) {
        StringBuilder block = null;
        for (int i = 0; i < lines.size(); i++) {
            String line = lines.get(i);
            if (line.equals("```java")) {
                // A block that begins with a method is a member of the class, not a call.
                boolean method = i + 1 < lines.size() && lines.get(i + 1).startsWith("static ");
                block = method ? members : calls;
            } else if (line.startsWith("```")) {
                block = null;
            } else if (block != null) {
                block.append(asCode(line, i + 1)).append('\n');
            }
        }
    }

    /** The calls with their answers, in README.md's order. */
    List<Shown> shown() {
        return shown;
    }

    /** The lines that name an answer in another form than the one that is made a check of. */
    List<Integer> unread() {
        return unread;
    }

    /** A class whose method run adds each answer, as a text, to the list that it is given. */
    String source() {
        return "public final class " + CLASS + " {\n"
                + members
                + "public static void run(java.util.List<String> answers) {\n"
                + calls
                + "}\n}\n";
    }

    private String asCode(String line, int number) {
        if (!line.contains(ARROW)) {
            return line;
        }
        Matcher parts = ANSWERED.matcher(line);
        if (!parts.matches()) {
            unread.add(number);
            return "";
        }
        String call = parts.group(1);
        shown.add(new Shown(number, call, parts.group(2)));
        return "try { answers.add(String.valueOf(" + call + ")); } catch (RuntimeException e) {"
                + " answers.add(\"throws \" + e.getClass().getSimpleName()); }";
    }
}
