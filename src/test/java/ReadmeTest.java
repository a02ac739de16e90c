import java.net.URL;
import java.net.URLClassLoader;
import java.nio.file.Files;
import java.nio.file.Path;
import java.util.ArrayList;
import java.util.List;
import java.util.Set;
import java.util.TreeSet;
import java.util.regex.Matcher;
import java.util.regex.Pattern;
import javax.tools.ToolProvider;

/** The example of README.md compiles, uses each call of the face, and answers what is written behind each line. */
public final class ReadmeTest {
    private static final Pattern NEW = Pattern.compile("SearchGrids grids = new SearchGrids\\(\\d+\\); +// .*");
    private static final Pattern CALL =
        Pattern.compile("(?:(int|long|boolean) (\\w+) = )?(grids\\.(\\w+)\\(.*?\\)); +// (-?\\d+|true|false): .*");
    private static final int CALLS_OF_THE_FACE = 22;

    private static int wrong = 0;

    /** Called by the example's class. */
    public static void due(String call, Object got, String want) {
        if (!String.valueOf(got).equals(want)) {
            wrong++;
            System.out.println(call + " answered " + got + ", README.md has " + want);
        }
    }

    private static List<String> example() throws Exception {
        List<String> lines = new ArrayList<>();
        boolean inside = false;
        for (String line : Files.readAllLines(Path.of("README.md"))) {
            if (line.startsWith("```")) {
                inside = line.equals("```java");
            } else if (inside) {
                lines.add(line);
            }
        }
        return lines;
    }

    private static String program(List<String> lines) {
        StringBuilder program = new StringBuilder("public final class Example { public static void run() {\n");
        Set<String> called = new TreeSet<>();
        for (String line : lines) {
            Matcher call = CALL.matcher(line);
            if (call.matches()) {
                called.add(call.group(4));
                boolean kept = call.group(2) != null;
                program.append(kept ? call.group(1) + " " + call.group(2) + " = " + call.group(3) + ";\n" : "");
                program.append("ReadmeTest.due(\"" + call.group(3) + "\", " + (kept ? call.group(2) : call.group(3))
                    + ", \"" + call.group(5) + "\");\n");
            } else if (NEW.matcher(line).matches()) {
                program.append(line).append('\n');
            } else {
                due(line, "no call", "a call and its answer");
            }
        }
        due("how many calls of the face are shown", called.size(), Integer.toString(CALLS_OF_THE_FACE));
        return program.append("} }\n").toString();
    }

    private static void run(String program, Path classes) throws Exception {
        Path source = classes.resolve("Example.java");
        Files.writeString(source, program);
        int code = ToolProvider.getSystemJavaCompiler().run(null, null, null, "-d", classes.toString(),
            "-cp", System.getProperty("java.class.path"), source.toString());
        due("javac", code, "0");
        if (code == 0) {
            try (URLClassLoader loader = new URLClassLoader(new URL[] {classes.toUri().toURL()})) {
                loader.loadClass("Example").getMethod("run").invoke(null);
            }
        }
    }

    public static void main(String[] args) throws Exception {
        Path classes = Files.createTempDirectory("readme");
        try {
            run(program(example()), classes);
        } finally {
            for (String name : List.of("Example.java", "Example.class")) {
                Files.deleteIfExists(classes.resolve(name));
            }
            Files.delete(classes);
        }
        System.out.println(wrong == 0 ? "README.md's example is as it says" : wrong + " lines are not");
        if (wrong != 0) {
            System.exit(1);
        }
    }
}
