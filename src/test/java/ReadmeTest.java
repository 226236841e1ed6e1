import java.io.IOException;
import java.lang.reflect.Method;
import java.lang.reflect.Modifier;
import java.net.URL;
import java.net.URLClassLoader;
import java.nio.file.DirectoryStream;
import java.nio.file.Files;
import java.nio.file.Path;
import java.util.ArrayList;
import java.util.List;
import java.util.regex.Matcher;
import java.util.regex.Pattern;
import javax.tools.JavaCompiler;
import javax.tools.ToolProvider;

/**
 * What README.md shows of the class's use compiles and gives the answers that stand behind each
 * line; it shows every call of the face, and names every test. Runs at the project's root.
 */
final class ReadmeTest {
    private static final Path README = Path.of("README.md");
    private static final Path TESTS = Path.of("src", "test", "java");
    private static final String PROGRAM = "ReadmeProgram";
    private static final String NEW_OBJECT = "HoldServer server = new HoldServer();";
    // A call, perhaps kept in a variable, then its answer or exception, then perhaps words on it.
    private static final Pattern CALL =
        Pattern.compile("(?:int (?<variable>\\w+) = )?(?<call>server\\.\\w+\\(.*\\));\\s*// (?<answer>-?\\d+|throws \\w+)(?:: .+)?");

    private static final Checks checks = new Checks();

    public static void main(String[] args) throws Exception {
        List<String> text = Files.readAllLines(README);
        List<String> shown = shownLines(text);
        List<Matcher> calls = callsIn(shown);
        answersAsShown(calls);
        showsEveryCall(calls);
        namesEveryTest(String.join("\n", text));
        checks.end("ReadmeTest");
    }

    /** The lines of all blocks of Java, which together are one program. */
    private static List<String> shownLines(List<String> text) {
        List<String> lines = new ArrayList<>();
        boolean inside = false;
        for (String line : text) {
            if (line.startsWith("```")) {
                inside = line.equals("```java");
            } else if (inside && !line.isBlank()) {
                lines.add(line);
            }
        }
        return lines;
    }

    private static List<Matcher> callsIn(List<String> shown) {
        checks.due("the first line that is shown", shown.isEmpty() ? "nothing" : shown.get(0), NEW_OBJECT);
        List<Matcher> calls = new ArrayList<>();
        for (int i = 1; i < shown.size(); i++) {
            Matcher call = CALL.matcher(shown.get(i));
            checks.due("whether it is a call with its answer: " + shown.get(i), call.matches() ? "yes" : "no", "yes");
            if (call.matches()) {
                calls.add(call);
            }
        }
        return calls;
    }

    private static void answersAsShown(List<Matcher> calls) throws Exception {
        List<String> answers = answersOf(programOf(calls));
        checks.due("how many calls the program made", answers.size(), calls.size());
        for (int i = 0; i < answers.size(); i++) {
            checks.due(calls.get(i).group("call"), answers.get(i), calls.get(i).group("answer"));
        }
    }

    private static String programOf(List<Matcher> calls) {
        StringBuilder program = new StringBuilder();
        program.append("public final class ").append(PROGRAM).append(" {\n")
            .append("    public static void run(java.util.List<String> answers) {\n")
            .append("        ").append(NEW_OBJECT).append('\n');
        for (Matcher call : calls) {
            String variable = call.group("variable");
            if (variable != null) {
                program.append("        int ").append(variable).append(" = ").append(call.group("call")).append(";\n")
                    .append("        answers.add(String.valueOf(").append(variable).append("));\n");
            } else {
                program.append("        try {\n")
                    .append("            answers.add(String.valueOf(").append(call.group("call")).append("));\n")
                    .append("        } catch (RuntimeException e) {\n")
                    .append("            answers.add(\"throws \" + e.getClass().getSimpleName());\n")
                    .append("        }\n");
            }
        }
        return program.append("    }\n}\n").toString();
    }

    private static List<String> answersOf(String program) throws Exception {
        List<String> answers = new ArrayList<>();
        Path place = Files.createTempDirectory("readme");
        try {
            compile(program, place);
            URL[] places = {place.toUri().toURL()};
            try (URLClassLoader loader = new URLClassLoader(places, ReadmeTest.class.getClassLoader())) {
                loader.loadClass(PROGRAM).getMethod("run", List.class).invoke(null, answers);
            }
        } finally {
            remove(place);
        }
        return answers;
    }

    private static void compile(String program, Path place) throws IOException {
        JavaCompiler compiler = ToolProvider.getSystemJavaCompiler();
        if (compiler == null) {
            throw new AssertionError("there is no compiler: it needs the java of a JDK");
        }
        Path source = place.resolve(PROGRAM + ".java");
        Files.writeString(source, program);
        int code = compiler.run(null, null, null, "-d", place.toString(),
            "-cp", System.getProperty("java.class.path"), source.toString());
        if (code != 0) {
            throw new AssertionError("what README.md shows does not compile");
        }
    }

    private static void remove(Path place) throws IOException {
        try (DirectoryStream<Path> made = Files.newDirectoryStream(place)) {
            for (Path file : made) {
                Files.delete(file);
            }
        }
        Files.delete(place);
    }

    private static void showsEveryCall(List<Matcher> calls) {
        for (Method method : HoldServer.class.getDeclaredMethods()) {
            if (Modifier.isPublic(method.getModifiers())) {
                String start = "server." + method.getName() + "(";
                boolean shown = calls.stream().anyMatch(call -> call.group("call").startsWith(start));
                checks.due("whether README.md shows " + method.getName(), shown ? "yes" : "no", "yes");
            }
        }
    }

    private static void namesEveryTest(String text) throws IOException {
        checks.due("whether it says how to run the tests", text.contains("\n    .ci/run\n") ? "yes" : "no", "yes");
        try (DirectoryStream<Path> tests = Files.newDirectoryStream(TESTS, "*Test.java")) {
            for (Path test : tests) {
                String name = test.getFileName().toString().replace(".java", "");
                checks.due("whether README.md names " + name, text.contains("| `" + name + "` |") ? "yes" : "no", "yes");
            }
        }
    }
}
