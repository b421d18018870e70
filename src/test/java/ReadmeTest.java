import java.io.File;
import java.io.IOException;
import java.lang.reflect.Method;
import java.lang.reflect.Modifier;
import java.nio.file.Files;
import java.nio.file.Path;
import java.util.ArrayList;
import java.util.List;
import java.util.concurrent.TimeUnit;
import java.util.regex.Matcher;
import java.util.regex.Pattern;
import java.util.stream.Stream;

/** README.md says what is so: its commands, its example, its lists. Run from the project's folder. */
public final class ReadmeTest {
    private static final Path PAGE = Path.of("README.md");
    private static final String RUN_ALL = ".ci/run";
    /** The folder that the page's first command compiles into, as the page says. */
    private static final String COMPILED = "build/use";
    private static final Path EXAMPLE = Path.of("build/readme");
    private static final Pattern ANSWERED = Pattern.compile("(x\\.\\w+\\(.*\\)); +// (-?\\d+)(:.*)?");

    private final Due due = new Due();
    private final List<String> lines = Files.readAllLines(PAGE);

    private ReadmeTest() throws IOException {
    }

    public static void main(String[] args) throws Exception {
        ReadmeTest test = new ReadmeTest();
        test.commandsWork();
        test.exampleAnswersAsTold();
        test.eachCallIsTold();
        test.testsAreThoseThatThereAre();
        test.due.end();
    }

    private List<String> blocks(String language) {
        List<String> inside = new ArrayList<>();
        boolean on = false;
        for (String line : lines) {
            if (line.startsWith("```")) {
                on = line.equals("```" + language);
            } else if (on) {
                inside.add(line);
            }
        }
        return inside;
    }

    /** The command that runs all tests runs this one, too, so it is only looked at here. */
    private void commandsWork() throws Exception {
        due.sentence("README.md says .. how its tests are run, by a command that works as it is written there");
        List<String> commands = blocks("sh");
        due.is("the page has " + RUN_ALL, commands.contains(RUN_ALL) ? 1 : 0, 1);
        due.is(RUN_ALL + " is executable", Files.isExecutable(Path.of(RUN_ALL)) ? 1 : 0, 1);
        for (String command : commands) {
            if (!command.equals(RUN_ALL)) {
                due.is(command, exitCode("bash", "-c", command), 0);
            }
        }
    }

    private void exampleAnswersAsTold() throws Exception {
        due.sentence("README.md says how the class is used");
        StringBuilder body = new StringBuilder();
        int answers = 0;
        for (String line : blocks("java")) {
            Matcher told = ANSWERED.matcher(line);
            if (told.matches()) {
                answers++;
                body.append("due(\"").append(told.group(1)).append("\", ").append(told.group(1)).append(", ")
                        .append(told.group(2)).append(");\n");
            } else {
                due.is("a call without an answer: " + line, line.startsWith("x.") ? 1 : 0, 0);
                body.append(line).append('\n');
            }
        }
        due.is("the page tells answers", answers > 0 ? 1 : 0, 1);
        due.is("the page's example", runExample(body.toString()), 0);
    }

    private static int runExample(String body) throws Exception {
        Files.createDirectories(EXAMPLE);
        Path file = EXAMPLE.resolve("Example.java");
        Files.writeString(file, "public final class Example {\n"
                + "static int wrong = 0;\n"
                + "static void due(String call, int got, int want) {\n"
                + "if (got != want) { wrong++; System.out.println(call + \" answered \" + got + \", told is \" + want); }\n"
                + "}\n"
                + "public static void main(String[] args) {\n" + body + "System.exit(wrong > 0 ? 1 : 0);\n}\n}\n");
        int compiled = exitCode("javac", "-cp", COMPILED, "-d", EXAMPLE.toString(), file.toString());
        String both = EXAMPLE + File.pathSeparator + COMPILED;
        return compiled != 0 ? compiled : exitCode("java", "-cp", both, "Example");
    }

    private static int exitCode(String... command) throws Exception {
        Process process = new ProcessBuilder(command).redirectErrorStream(true)
                .redirectOutput(ProcessBuilder.Redirect.INHERIT).start();
        if (!process.waitFor(5, TimeUnit.MINUTES)) {
            process.destroyForcibly();
            return 1;
        }
        return process.exitValue();
    }

    private void eachCallIsTold() {
        due.sentence("README.md tells each call");
        String page = String.join("\n", lines);
        for (Method method : EveningClasses.class.getDeclaredMethods()) {
            if (Modifier.isPublic(method.getModifiers())) {
                due.is(method.getName(), page.contains("`" + method.getName() + "`") ? 1 : 0, 1);
            }
        }
    }

    private void testsAreThoseThatThereAre() throws IOException {
        due.sentence("README.md tells each test");
        List<String> told = new ArrayList<>();
        for (String line : lines) {
            Matcher row = Pattern.compile("\\| ((\\w+Test(, )?)+) \\|.*").matcher(line);
            if (row.matches()) {
                told.addAll(List.of(row.group(1).split(", ")));
            }
        }
        List<String> there = new ArrayList<>();
        try (Stream<Path> files = Files.list(Path.of("src/test/java"))) {
            files.map(file -> file.getFileName().toString()).filter(name -> name.endsWith("Test.java"))
                    .forEach(name -> there.add(name.replace(".java", "")));
        }
        told.sort(null);
        there.sort(null);
        due.same("tests that the page tells", told, there);
    }
}
