import java.net.URL;
import java.net.URLClassLoader;
import java.nio.file.Files;
import java.nio.file.Path;
import java.util.regex.Matcher;
import java.util.regex.Pattern;
import javax.tools.JavaCompiler;
import javax.tools.ToolProvider;

/** What README.md shows: its Java compiles, and each call answers the number that stands behind it. */
public final class ReadmeTests {
    private static final Pattern BLOCK = Pattern.compile("```java\n(.*?)```", Pattern.DOTALL);
    private static final Pattern ANSWERED = Pattern.compile("(?m)^(x\\.[^;\n]*);\\s*// (-?\\d+)\\b.*$");
    private static int wrong = 0;
    private static int asked = 0;

    public static void main(String[] args) throws Exception {
        run(examples(Files.readString(Path.of("README.md"))));
        if (asked == 0) {
            due("calls in README.md", asked, 1);
        }
        System.out.println("README.md: " + asked + " calls, " + wrong + " wrong answers");
        if (wrong != 0) {
            System.exit(1);
        }
    }

    public static void due(String call, long got, long want) {
        asked++;
        if (got != want) {
            wrong++;
            System.out.println(call + " answered " + got + ", README.md says " + want);
        }
    }

    /** A class of the page's examples, each a block of its own, in which each answer is looked at. */
    private static String examples(String page) {
        StringBuilder body = new StringBuilder("public final class Examples { public static void run() {\n");
        Matcher block = BLOCK.matcher(page);
        while (block.find()) {
            String checked = ANSWERED.matcher(block.group(1)).replaceAll("ReadmeTests.due(\"$1\", $1, $2L);");
            body.append("{\n").append(checked).append("}\n");
        }
        return body.append("} }\n").toString();
    }

    private static void run(String source) throws Exception {
        Path place = Files.createTempDirectory("readme");
        Path file = place.resolve("Examples.java");
        try {
            Files.writeString(file, source);
            JavaCompiler javac = ToolProvider.getSystemJavaCompiler();
            String built = System.getProperty("java.class.path");
            if (javac.run(null, null, null, "-cp", built, "-d", place.toString(), file.toString()) != 0) {
                due("compiling the examples of README.md", 1, 0);
                return;
            }
            try (URLClassLoader loader = new URLClassLoader(new URL[] {place.toUri().toURL()})) {
                loader.loadClass("Examples").getMethod("run").invoke(null);
            }
        } finally {
            Files.deleteIfExists(place.resolve("Examples.class"));
            Files.deleteIfExists(file);
            Files.deleteIfExists(place);
        }
    }
}
