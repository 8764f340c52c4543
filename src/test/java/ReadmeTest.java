import java.io.IOException;
import java.lang.reflect.Method;
import java.lang.reflect.Modifier;
import java.net.URL;
import java.net.URLClassLoader;
import java.nio.file.Files;
import java.nio.file.Path;
import java.util.ArrayList;
import java.util.List;
import java.util.regex.Matcher;
import java.util.regex.Pattern;
import javax.tools.JavaCompiler;
import javax.tools.ToolProvider;

/** What README.md shows is so: its calls compile and answer what stands behind them; its numbers and its way to run. */
public final class ReadmeTest {
    private static final Pattern CALL = Pattern.compile("(marsh\\.(\\w+)\\(.*\\));\\s+// (GONE \\+ \\w+|-?\\w+)(:.*|,.*)?");
    private static final Pattern CONSTANT = Pattern.compile("\\| `([A-Z]+)` +\\| (-\\d+) .*");

    private static final Due due = new Due("ReadmeTest");
    private static final List<String> calls = new ArrayList<>();
    private static final List<String> names = new ArrayList<>();
    private static final List<Long> wanted = new ArrayList<>();

    public static void main(String[] args) throws Exception {
        Path project = Path.of(System.getProperty("project", "."));
        String readme = Files.readString(project.resolve("README.md"));
        long[] got = answers(programOf(readme));
        due.is("how many answers", got.length, calls.size());
        for (int i = 0; i < got.length && i < calls.size(); i++) {
            due.is(calls.get(i), got[i], wanted.get(i));
        }
        everyCallIsShown();
        constants(readme);
        wayToRun(project, readme);
        due.end();
    }

    /** The blocks of Java, one behind the other, with each call's answer kept. */
    private static String programOf(String readme) {
        StringBuilder body = new StringBuilder();
        boolean inside = false;
        for (String line : readme.split("\n")) {
            if (line.startsWith("```")) {
                inside = line.equals("```java");
            } else if (inside) {
                body.append(statementOf(line)).append('\n');
            }
        }
        return "public final class ReadmeShown {\n"
            + "public static java.util.List<Long> answers() {\n"
            + "java.util.List<Long> answers = new java.util.ArrayList<>();\n" + body + "return answers;\n}\n}\n";
    }

    private static String statementOf(String line) {
        Matcher call = CALL.matcher(line);
        if (!call.matches()) {
            due.holds("a line that asks nothing: " + line,
                line.equals("LanternSteps marsh = new LanternSteps();") || line.startsWith("for (char sign : "));
            return line;
        }
        calls.add(call.group(1));
        names.add(call.group(2));
        wanted.add(numberOf(call.group(3)));
        return "answers.add((long) " + call.group(1) + ");";
    }

    private static long numberOf(String text) {
        if (text.startsWith("GONE + ")) {
            return LanternSteps.GONE + numberOf(text.substring(7));
        }
        return Character.isUpperCase(text.charAt(0)) ? constant(text) : Long.parseLong(text);
    }

    private static long constant(String name) {
        try {
            return ((Number) LanternSteps.class.getField(name).get(null)).longValue();
        } catch (ReflectiveOperationException none) {
            due.holds("there is a constant " + name, false);
            return 0;
        }
    }

    private static long[] answers(String program) throws Exception {
        JavaCompiler compiler = ToolProvider.getSystemJavaCompiler();
        Path folder = Files.createTempDirectory("readme");
        try {
            Path file = Files.writeString(folder.resolve("ReadmeShown.java"), program);
            int code = compiler.run(null, null, null, "-cp", System.getProperty("java.class.path"),
                "-d", folder.toString(), file.toString());
            due.is("what is shown compiles", code, 0);
            if (code != 0) {
                return new long[0];
            }
            try (URLClassLoader loader = new URLClassLoader(new URL[] {folder.toUri().toURL()})) {
                List<?> answers = (List<?>) loader.loadClass("ReadmeShown").getMethod("answers").invoke(null);
                return answers.stream().mapToLong(answer -> (Long) answer).toArray();
            }
        } finally {
            deleteAll(folder);
        }
    }

    private static void deleteAll(Path folder) throws IOException {
        try (var files = Files.list(folder)) {
            for (Path file : files.toList()) {
                Files.delete(file);
            }
        }
        Files.delete(folder);
    }

    private static void everyCallIsShown() {
        for (Method method : LanternSteps.class.getDeclaredMethods()) {
            if (Modifier.isPublic(method.getModifiers())) {
                due.holds("README shows " + method.getName(), names.contains(method.getName()));
            }
        }
        due.holds("at most 512 calls", calls.size() + 7 <= 512);
    }

    private static void constants(String readme) {
        int found = 0;
        for (String line : readme.split("\n")) {
            Matcher row = CONSTANT.matcher(line);
            if (row.matches()) {
                found++;
                due.is(row.group(1), constant(row.group(1)), Long.parseLong(row.group(2)));
            }
        }
        due.is("constants in the table", found, 5);
        due.holds("NONE is told", readme.contains("`NONE` (" + LanternSteps.NONE + ")"));
    }

    private static void wayToRun(Path project, String readme) {
        due.holds("README names .ci/run", readme.contains("```sh\n.ci/run\n```"));
        due.holds(".ci/run can be run", Files.isExecutable(project.resolve(".ci/run")));
        for (String name : new String[] {"NOTES.md", "src/main/java/LanternSteps.java"}) {
            due.holds("README names " + name, readme.contains(name));
            due.holds("there is " + name, Files.exists(project.resolve(name)));
        }
    }
}
