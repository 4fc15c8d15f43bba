import java.net.URL;
import java.net.URLClassLoader;
import java.nio.file.Files;
import java.nio.file.Path;
import java.util.regex.Matcher;
import java.util.regex.Pattern;
import java.util.stream.Stream;

/** The code of README.md: each call must answer what is written behind it. Run from the project's root. */
public final class ReadmeTest {
    private static final Pattern BLOCK = Pattern.compile("```java\n(.*?)```", Pattern.DOTALL);
    private static final Pattern CALL = Pattern.compile("(x\\.\\w+\\([^\\n]*\\)); +// (-?\\d+|true|false)\\b.*");
    private static final Check CHECK = new Check();
    private static int calls = 0;

    /** What a call of README.md answered, and what is written there. */
    public static void due(String call, long got, long due) {
        CHECK.is("README.md: " + call, got, due);
    }

    public static void due(String call, boolean got, boolean due) {
        CHECK.is("README.md: " + call, got, due);
    }

    public static void main(String[] args) throws Exception {
        String program = program(Files.readString(Path.of("README.md")));
        Path work = Files.createTempDirectory("readme");
        try {
            Path file = Files.writeString(work.resolve("Readme.java"), program);
            String classes = System.getProperty("java.class.path");
            int trouble = new ProcessBuilder("javac", "-cp", classes, "-d", work.toString(), file.toString())
                .inheritIO().start().waitFor();
            CHECK.is("README.md compiles", trouble, 0);
            if (trouble == 0) {
                run(work);
            }
        } finally {
            removeAll(work);
        }
        CHECK.is("calls were seen", calls > 30, true);
        CHECK.end();
    }

    /** Blocks with a method stand beside main, the others one behind the other in it. */
    private static String program(String page) {
        StringBuilder methods = new StringBuilder();
        StringBuilder lines = new StringBuilder();
        Matcher block = BLOCK.matcher(page);
        while (block.find()) {
            if (block.group(1).contains("static ")) {
                methods.append(block.group(1));
            } else {
                block.group(1).lines().forEach(line -> lines.append(asked(line)).append('\n'));
            }
        }
        return "public final class Readme {\n" + methods + "public static void go() {\n" + lines + "}\n}\n";
    }

    private static String asked(String line) {
        Matcher call = CALL.matcher(line);
        if (!call.matches()) {
            return line;
        }
        calls++;
        return "ReadmeTest.due(\"" + call.group(1) + "\", " + call.group(1) + ", " + call.group(2) + ");";
    }

    private static void run(Path work) throws Exception {
        try (URLClassLoader loader = new URLClassLoader(new URL[] {work.toUri().toURL()}, ReadmeTest.class.getClassLoader())) {
            loader.loadClass("Readme").getMethod("go").invoke(null);
        }
    }

    private static void removeAll(Path work) throws Exception {
        try (Stream<Path> files = Files.walk(work)) {
            for (Path one : files.sorted((a, b) -> b.compareTo(a)).toList()) {
                Files.delete(one);
            }
        }
    }
}
