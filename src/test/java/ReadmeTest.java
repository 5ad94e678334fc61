import java.io.IOException;
import java.lang.reflect.Method;
import java.lang.reflect.Modifier;
import java.net.URL;
import java.net.URLClassLoader;
import java.nio.file.Files;
import java.nio.file.Path;
import java.util.ArrayList;
import java.util.List;
import java.util.regex.Matcher;
import java.util.regex.Pattern;

/** The examples of README.md, compiled and run as they stand there: each answer behind a '//' is the one that comes. */
public final class ReadmeTest {
    private static final Pattern BLOCK = Pattern.compile("(?s)```java\n(.*?)```");
    private static final Pattern ANSWERED = Pattern.compile("(?m)^(?:int (\\w+) = )?(archive\\..*;) // (-?\\d+)$");
    private static final Pattern ERROR = Pattern.compile("(?m)^\\| `([A-Z_]+)` \\| (-\\d+) \\|");

    private final List<String> calls = new ArrayList<>();
    private final List<Integer> due = new ArrayList<>();

    /** The answers go into an array, as the class made of them cannot see the classes of the tests. */
    private String programOf(String examples) {
        StringBuilder body = new StringBuilder();
        for (String line : examples.split("\n")) {
            Matcher m = ANSWERED.matcher(line);
            if (!m.matches()) {
                Check.holds("'" + line + "' has its answer in a form that is read", !line.contains("//"));
                body.append(line).append('\n');
                continue;
            }
            String answer = "answers[" + due.size() + "]";
            body.append(answer).append(" = ").append(m.group(2)).append('\n');
            if (m.group(1) != null) {
                body.append("int ").append(m.group(1)).append(" = ").append(answer).append(";\n");
            }
            calls.add(m.group(2));
            due.add(Integer.parseInt(m.group(3)));
        }
        return "public final class Examples { public static int[] run() { int[] answers = new int[" + due.size() + "];\n"
                + body + "return answers; } }\n";
    }

    private static int[] answersOf(String program)
            throws IOException, InterruptedException, ReflectiveOperationException {
        Path folder = Files.createTempDirectory("examples");
        Path source = folder.resolve("Examples.java");
        Path compiled = folder.resolve("Examples.class");
        try {
            Files.writeString(source, program);
            int failed = new ProcessBuilder("javac", "-d", folder.toString(), "-cp",
                    System.getProperty("java.class.path"), source.toString()).inheritIO().start().waitFor();
            Check.due("compiling the examples", failed, 0);
            if (failed != 0) {
                return new int[0];
            }
            try (URLClassLoader loader = new URLClassLoader(new URL[] {folder.toUri().toURL()})) {
                return (int[]) loader.loadClass("Examples").getMethod("run").invoke(null);
            }
        } finally {
            Files.deleteIfExists(source);
            Files.deleteIfExists(compiled);
            Files.delete(folder);
        }
    }

    private static String examplesOf(String readme) {
        StringBuilder examples = new StringBuilder();
        Matcher blocks = BLOCK.matcher(readme);
        while (blocks.find()) {
            examples.append(blocks.group(1));
        }
        return examples.toString();
    }

    private static void errorsHaveTheirValues(String readme) throws ReflectiveOperationException {
        int found = 0;
        Matcher errors = ERROR.matcher(readme);
        while (errors.find()) {
            found++;
            Check.due(errors.group(1), SoundArchive.class.getField(errors.group(1)).getInt(null),
                    Integer.parseInt(errors.group(2)));
        }
        Check.due("constants in the table of errors", found, 6);
    }

    /** Each call of the class stands in the table of what the calls answer. */
    private static void everyCallStandsInATable(String readme) {
        for (Method m : SoundArchive.class.getDeclaredMethods()) {
            if (Modifier.isPublic(m.getModifiers())) {
                Check.holds(m.getName() + " stands in a table",
                        Pattern.compile("(?m)^\\| [^|]*`" + m.getName() + "`").matcher(readme).find());
            }
        }
    }

    public static void main(String[] args)
            throws IOException, InterruptedException, ReflectiveOperationException {
        String readme = Files.readString(Path.of(args[0], "README.md"));
        ReadmeTest test = new ReadmeTest();
        int[] answers = answersOf(test.programOf(examplesOf(readme)));
        Check.due("answers of the examples", answers.length, test.due.size());
        Check.holds("there are examples", answers.length > 20);
        for (int i = 0; i < answers.length; i++) {
            Check.due("example " + test.calls.get(i), answers[i], test.due.get(i));
        }
        errorsHaveTheirValues(readme);
        everyCallStandsInATable(readme);
        Check.finish();
    }
}
