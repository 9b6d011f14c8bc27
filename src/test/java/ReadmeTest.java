import java.io.IOException;
import java.lang.reflect.Method;
import java.lang.reflect.Modifier;
import java.nio.file.Files;
import java.nio.file.Path;
import java.util.Set;
import java.util.TreeSet;
import java.util.regex.Matcher;
import java.util.regex.Pattern;
import java.util.stream.Collectors;
import java.util.stream.Stream;
import javax.tools.ToolProvider;

/** What README.md says holds: its examples, its calls, its list of tests. It is run in the project's folder. */
public final class ReadmeTest {
    /** A call that stands alone, with its answer, or the answer and why, behind it. */
    private static final Pattern ANSWERED = Pattern.compile("(x\\.\\w+\\(.*\\));\\s*// (-?[\\w.]+)(: .*)?");

    public static void main(String[] args) throws IOException, ReflectiveOperationException {
        String readme = Files.readString(Path.of("README.md"));
        examples(readme);
        calls(readme);
        tests(readme);
        Due.end("ReadmeTest");
    }

    private static void examples(String readme) throws IOException, ReflectiveOperationException {
        Matcher block = Pattern.compile("(?s)```java\n(.*?)```").matcher(readme);
        int examples = 0;
        while (block.find()) {
            examples++;
            example("ReadmeExample" + examples, block.group(1));
        }
        Due.is("examples", examples, 2);
    }

    /** The example becomes a class in which each answer is looked at. */
    private static void example(String name, String block) throws IOException, ReflectiveOperationException {
        StringBuilder code = new StringBuilder("final class " + name + " {\n    static void run() {\n");
        int answers = 0;
        for (String line : block.split("\n")) {
            Matcher m = ANSWERED.matcher(line);
            if (m.matches()) {
                answers++;
                code.append("Due.is(\"README: ").append(m.group(1)).append("\", ")
                    .append(m.group(1)).append(", ").append(m.group(2)).append(");\n");
            } else {
                Due.holds("a call without its answer: " + line, !line.startsWith("x."));
                code.append(line).append('\n');
            }
        }
        Due.holds("answers of " + name, answers > 10);
        Path classes = Path.of(System.getProperty("java.class.path"));
        Path source = classes.resolve(name + ".java");
        Files.writeString(source, code.append("    }\n}\n"));
        int exit = ToolProvider.getSystemJavaCompiler().run(null, null, null,
            "-cp", classes.toString(), "-d", classes.toString(), source.toString());
        Due.is(name + " compiles", exit, 0);
        if (exit == 0) {
            Method run = Class.forName(name).getDeclaredMethod("run");
            run.setAccessible(true);
            run.invoke(null);
        }
    }

    private static void calls(String readme) {
        Set<String> named = new TreeSet<>();
        Matcher m = Pattern.compile("`(\\w+)\\(([\\w, ]*)\\)`").matcher(readme.substring(readme.indexOf("| part |")));
        while (m.find()) {
            named.add(m.group(1) + " of " + (m.group(2).isEmpty() ? 0 : m.group(2).split(",").length));
        }
        Set<String> face = new TreeSet<>();
        for (Method method : AfternoonChange.class.getDeclaredMethods()) {
            if (Modifier.isPublic(method.getModifiers())) {
                face.add(method.getName() + " of " + method.getParameterCount());
            }
        }
        Due.holds("calls named: " + named + ", the face: " + face, named.equals(face));
    }

    private static void tests(String readme) throws IOException {
        Set<String> named = new TreeSet<>();
        Matcher m = Pattern.compile("`(\\w+Test)`").matcher(readme);
        while (m.find()) {
            named.add(m.group(1));
        }
        try (Stream<Path> files = Files.list(Path.of("src/test/java"))) {
            Set<String> there = files.map(f -> f.getFileName().toString()).filter(f -> f.endsWith("Test.java"))
                .map(f -> f.substring(0, f.length() - 5)).collect(Collectors.toCollection(TreeSet::new));
            Due.holds("tests named: " + named + ", there are: " + there, named.equals(there));
        }
        for (String path : new String[] {".ci/run", "src/main/java/AfternoonChange.java", "src/test/java/support/PlainChange.java"}) {
            Due.holds(path + " is there", Files.exists(Path.of(path)));
        }
    }
}
