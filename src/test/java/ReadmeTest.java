import java.io.IOException;
import java.lang.reflect.Method;
import java.lang.reflect.Modifier;
import java.net.URL;
import java.net.URLClassLoader;
import java.nio.file.Files;
import java.nio.file.Path;
import java.util.ArrayList;
import java.util.Comparator;
import java.util.List;
import java.util.regex.Matcher;
import java.util.regex.Pattern;
import java.util.stream.Stream;
import javax.tools.ToolProvider;

/** The examples of README.md as one program: each call as it stands there must give the answer told behind it. */
public final class ReadmeTest {
    private static final Pattern CALL = Pattern.compile("(x\\.(\\w+)\\(.*\\)); *// (-?\\d+|true|false): .+");
    private static int wrong = 0;
    private static int calls = 0;

    public static void main(String[] args) throws Exception {
        List<String> blocks = blocks(Files.readString(Path.of("README.md")));
        Path made = Files.createTempDirectory("readme");
        try {
            run(made, program(blocks));
        } finally {
            remove(made);
        }
        eachCallIsShown(String.join("\n", blocks));
        System.out.println(calls + " calls of README.md, " + wrong + " not as told");
        System.exit(wrong == 0 && calls > 0 ? 0 : 1);
    }

    /** What the example's program gives its answers to. */
    public static void told(String call, Object got, String due) {
        calls++;
        if (!String.valueOf(got).equals(due)) {
            fail(call + " answered " + got + ", README.md tells " + due);
        }
    }

    private static void fail(String why) {
        wrong++;
        System.out.println(why);
    }

    private static List<String> blocks(String readme) {
        List<String> all = new ArrayList<>();
        Matcher m = Pattern.compile("```java\n(.*?)```", Pattern.DOTALL).matcher(readme);
        while (m.find()) {
            all.add(m.group(1));
        }
        return all;
    }

    /** Blocks with a method stand beside run(), all others within it, in their order. */
    private static String program(List<String> blocks) {
        StringBuilder beside = new StringBuilder();
        StringBuilder within = new StringBuilder();
        for (String block : blocks) {
            if (block.startsWith("static ")) {
                beside.append(block);
            } else {
                within.append(asked(block));
            }
        }
        return "public final class Example {\n" + beside + "public static void run() {\n" + within + "}\n}\n";
    }

    private static String asked(String block) {
        StringBuilder b = new StringBuilder();
        for (String line : block.split("\n")) {
            Matcher m = CALL.matcher(line);
            if (m.matches()) {
                b.append("ReadmeTest.told(\"").append(m.group(1).replace("\"", "\\\"")).append("\", ").append(m.group(1)).append(", \"").append(m.group(3)).append("\");\n");
            } else if (line.startsWith("x.")) {
                fail("README.md tells no answer of " + line);
            } else {
                b.append(line).append('\n');
            }
        }
        return b.toString();
    }

    private static void run(Path made, String program) throws Exception {
        Path source = Files.writeString(made.resolve("Example.java"), program);
        String classes = System.getProperty("java.class.path");
        int code = ToolProvider.getSystemJavaCompiler().run(null, null, null, "-cp", classes, "-d", made.toString(), source.toString());
        if (code != 0) {
            fail("the examples of README.md do not compile");
            return;
        }
        try (URLClassLoader loader = new URLClassLoader(new URL[] {made.toUri().toURL()}, ReadmeTest.class.getClassLoader())) {
            loader.loadClass("Example").getMethod("run").invoke(null);
        }
    }

    private static void eachCallIsShown(String examples) {
        for (Method m : EmptyChairs.class.getDeclaredMethods()) {
            if (Modifier.isPublic(m.getModifiers()) && !examples.contains("x." + m.getName() + "(")) {
                fail("README.md shows no call of " + m.getName());
            }
        }
    }

    private static void remove(Path made) throws IOException {
        try (Stream<Path> files = Files.walk(made)) {
            for (Path file : files.sorted(Comparator.reverseOrder()).toList()) {
                Files.delete(file);
            }
        }
    }
}
