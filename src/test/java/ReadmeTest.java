import java.io.IOException;
import java.net.URL;
import java.net.URLClassLoader;
import java.nio.file.Files;
import java.nio.file.Path;
import java.util.ArrayList;
import java.util.List;
import java.util.regex.Matcher;
import java.util.regex.Pattern;
import javax.tools.ToolProvider;

/** The README's examples, made one program of, answer what stands behind them. */
public final class ReadmeTest {
    private static final Pattern ANSWERED = Pattern.compile("(bench\\..*\\)); +// (-?[0-9]+): .*");
    private static final Path PLACE = Path.of("build", "readme");
    private static final int LEAST_ANSWERS = 20;

    public static void main(String[] args) throws ReflectiveOperationException, IOException {
        List<String> program = new ArrayList<>();
        program.add("public final class Readme {");
        program.add("public static String wrong = \"\";");
        program.add("private static void due(String call, long got, long want) {");
        program.add("if (got != want) { wrong += call + \" answers \" + got + \", due is \" + want + '\\n'; } }");
        program.add("public static void main(String[] args) {");
        int answers = addExamples(program);
        program.add("} }");
        String wrong = answers < LEAST_ANSWERS ? "just " + answers + " answers were found\n" : answersOf(program);
        System.out.print(wrong);
        System.out.println(wrong.isEmpty() ? "all " + answers + " answers are as it tells" : "README.md is wrong");
        System.exit(wrong.isEmpty() ? 0 : 1);
    }

    private static int addExamples(List<String> program) throws IOException {
        int answers = 0;
        boolean inside = false;
        for (String line : Files.readAllLines(Path.of("README.md"))) {
            if (line.startsWith("```")) {
                inside = line.equals("```java");
            } else if (inside) {
                Matcher answered = ANSWERED.matcher(line);
                if (answered.matches()) {
                    answers++;
                    String call = answered.group(1);
                    program.add("due(\"" + call + "\", " + call + ", " + answered.group(2) + "L);");
                } else {
                    program.add(line);
                }
            }
        }
        return answers;
    }

    private static String answersOf(List<String> program) throws ReflectiveOperationException, IOException {
        Files.createDirectories(PLACE);
        Path source = PLACE.resolve("Readme.java");
        Files.write(source, program);
        String classes = System.getProperty("java.class.path");
        int failed = ToolProvider.getSystemJavaCompiler()
            .run(null, null, null, "-cp", classes, "-d", PLACE.toString(), source.toString());
        if (failed != 0) {
            return "the examples don't compile\n";
        }
        try (URLClassLoader loader = new URLClassLoader(new URL[] {PLACE.toUri().toURL()})) {
            Class<?> readme = loader.loadClass("Readme");
            readme.getMethod("main", String[].class).invoke(null, (Object) new String[0]);
            return (String) readme.getField("wrong").get(null);
        }
    }
}
