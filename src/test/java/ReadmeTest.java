import java.io.File;
import java.nio.file.Files;
import java.nio.file.Path;
import java.util.ArrayList;
import java.util.List;
import java.util.regex.Matcher;
import java.util.regex.Pattern;
import javax.tools.JavaCompiler;
import javax.tools.ToolProvider;

/** README.md's example is compiled and run: each line with a comment that begins with a number answers that number. */
public final class ReadmeTest {
    private static final Checks C = new Checks("readme");
    private static final Pattern ANSWERED = Pattern.compile("(?:int (\\w+) = )?(desk\\..*); +// (-?[0-9]+)\\b.*");

    public static void main(String[] args) throws Exception {
        String readme = Files.readString(Path.of("README.md"));
        testsAreListed(readme);
        int from = readme.indexOf("```java\n");
        int to = readme.indexOf("```", from + 3);
        C.holds("there is an example", from >= 0 && to > from);
        if (from >= 0 && to > from) {
            runExample(readme.substring(from + 8, to));
        }
        C.finish();
    }

    private static void testsAreListed(String readme) {
        for (File file : new File("src/test/java").listFiles()) {
            String name = file.getName().replace(".java", "");
            C.holds(name + " is told of", readme.contains(name));
        }
        C.holds(".ci/run is told of", readme.contains(".ci/run"));
        C.holds("the class is told of", readme.contains("src/main/java/ReturnDesk.java"));
    }

    private static void runExample(String example) throws Exception {
        List<String> lines = new ArrayList<>();
        lines.add("public class Example { public static int wrong = 0, asked = 0;");
        lines.add("static void due(String call, int got, int want) { asked++; if (got != want) { wrong++;");
        lines.add("System.out.println(call + \" answered \" + got + \", README.md says \" + want); } }");
        lines.add("public static void main(String[] a) {");
        for (String line : example.split("\n")) {
            Matcher m = ANSWERED.matcher(line);
            if (!m.matches()) {
                lines.add(line);
                continue;
            }
            String call = m.group(2);
            String name = m.group(1) == null ? "answer" + lines.size() : m.group(1);
            lines.add("int " + name + " = " + call + ";");
            lines.add("due(\"" + call + "\", " + name + ", " + m.group(3) + ");");
        }
        lines.add("if (asked < 10) { wrong++; System.out.println(\"too few answers are told\"); }");
        lines.add("if (wrong != 0) { System.exit(1); } } }");
        Path place = Files.createTempDirectory("readme");
        Path file = place.resolve("Example.java");
        Files.write(file, lines);
        try {
            C.holds("the example is Java", compile(file, place));
            C.holds("the example answers as it says", run(place));
        } finally {
            for (File made : place.toFile().listFiles()) {
                made.delete();
            }
            place.toFile().delete();
        }
    }

    private static boolean compile(Path file, Path place) {
        JavaCompiler compiler = ToolProvider.getSystemJavaCompiler();
        String classes = System.getProperty("java.class.path");
        return compiler.run(null, null, null, "-cp", classes, "-d", place.toString(), file.toString()) == 0;
    }

    private static boolean run(Path place) throws Exception {
        String java = Path.of(System.getProperty("java.home"), "bin", "java").toString();
        String classes = System.getProperty("java.class.path") + File.pathSeparator + place;
        return new ProcessBuilder(java, "-cp", classes, "Example").inheritIO().start().waitFor() == 0;
    }
}
