import java.io.IOException;
import java.lang.reflect.Method;
import java.lang.reflect.Modifier;
import java.net.URL;
import java.net.URLClassLoader;
import java.nio.file.Files;
import java.nio.file.Path;
import java.util.ArrayList;
import java.util.List;
import javax.tools.JavaCompiler;
import javax.tools.ToolProvider;

/** The calls that README.md shows are made as they stand there. */
public final class ReadmeTest {
    public static void main(String[] args) {
        Check.run(ReadmeTest.class);
    }

    static void readme_eachCall_answersWhatItNames() throws Exception {
        Readme readme = Readme.read();
        List<Readme.Shown> shown = readme.shown();
        List<String> answers = answersOf(readme);
        Check.due("how many calls answered", answers.size(), shown.size());
        for (int i = 0; i < Math.min(answers.size(), shown.size()); i++) {
            Readme.Shown one = shown.get(i);
            Check.due("README.md line " + one.line() + ", " + one.call(),
                    answers.get(i), one.answer());
        }
    }

    static void readme_eachAnswer_isRead() throws IOException {
        Check.due("lines of README.md that aren't a call and its answer",
                Readme.read().unread().toString(), "[]");
    }

    static void readme_eachMethodOfTheFace_isShownWithAnAnswer() throws IOException {
        List<Readme.Shown> shown = Readme.read().shown();
        for (Method method : RegistryLog.class.getDeclaredMethods()) {
            if (Modifier.isPublic(method.getModifiers())) {
                String call = "." + method.getName() + "(";
                Check.due("README.md shows " + method.getName(),
                        shown.stream().anyMatch(one -> one.call().contains(call)), true);
            }
        }
    }

    static void readme_aWrongAnswer_isSeen() throws Exception {
        Readme wrong = new Readme(List.of(
                "```java",
                "RegistryLog log = new RegistryLog();",
                "log.rows();   // -> 1: it is 0",
                "log.move(0);  // -> 0",
                "log.rows()    // -> 0",
                "```",
                "log.rows();   // -> 2: in no block"));
        Check.due("the answers", answersOf(wrong).toString(),
                "[0, throws IllegalArgumentException]");
        Check.due("what is shown", wrong.shown().toString(),
                "[Shown[line=3, call=log.rows(), answer=1], "
                + "Shown[line=4, call=log.move(0), answer=0]]");
        Check.due("what isn't read", wrong.unread().toString(), "[5]");
    }

    /** Compiles the calls and makes them. */
    private static List<String> answersOf(Readme readme) throws Exception {
        Path folder = Files.createTempDirectory("readme");
        Path source = folder.resolve(Readme.CLASS + ".java");
        Path made = folder.resolve(Readme.CLASS + ".class");
        List<String> answers = new ArrayList<>();
        try {
            Files.writeString(source, readme.source());
            if (compiles(source, folder)) {
                call(folder, answers);
            }
        } finally {
            Files.deleteIfExists(source);
            Files.deleteIfExists(made);
            Files.delete(folder);
        }
        return answers;
    }

    private static boolean compiles(Path source, Path folder) {
        JavaCompiler compiler = ToolProvider.getSystemJavaCompiler();
        if (compiler == null) {
            Check.fail("java has no compiler here");
            return false;
        }
        int exit = compiler.run(null, null, null, "--release", "17", "-d", folder.toString(),
                "-cp", System.getProperty("java.class.path"), source.toString());
        Check.due("the exit code of compiling README.md's calls", exit, 0);
        return exit == 0;
    }

    private static void call(Path folder, List<String> answers) throws Exception {
        URL[] path = {folder.toUri().toURL()};
        try (URLClassLoader loader = new URLClassLoader(path, ReadmeTest.class.getClassLoader())) {
            Class<?> calls = loader.loadClass(Readme.CLASS);
            calls.getMethod("run", List.class).invoke(null, answers);
        }
    }
}
