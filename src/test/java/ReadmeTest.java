import java.io.IOException;
import java.net.URL;
import java.net.URLClassLoader;
import java.nio.file.Files;
import java.nio.file.Path;
import java.util.Comparator;
import java.util.List;
import java.util.regex.Matcher;
import java.util.regex.Pattern;
import java.util.stream.Stream;
import javax.tools.ToolProvider;

/** The example in README.md, compiled and run: each call answers what is written behind it. */
public final class ReadmeTest {
    private static final Pattern CALL = Pattern.compile("(x\\.(\\w+)\\(.*\\)); +// (-?\\d+): .*");
    private static final String[] CALLS = {
        "feed", "cut", "name", "number", "entry", "clear", "best", "write", "trim", "poke", "sum", "octet",
        "read", "told", "found", "letter"
    };

    public static void main(String[] args) throws Exception {
        Check check = new Check();
        String readme = Files.readString(Path.of("README.md"));
        int begin = readme.indexOf("```java\n") + 8;
        List<String> example = readme.substring(begin, readme.indexOf("```", begin)).lines().toList();
        for (String call : CALLS) {
            check.isTrue(call + " is shown", example.stream().anyMatch(line -> line.contains("x." + call + "(")));
        }
        Path folder = Files.createTempDirectory("readme");
        try {
            run(folder, source(example), check);
        } finally {
            remove(folder);
        }
        check.close();
    }

    private static String source(List<String> example) {
        StringBuilder out = new StringBuilder("public final class Example { public static void run(Check check) {\n");
        for (String line : example) {
            Matcher call = CALL.matcher(line);
            if (call.matches()) {
                String title = call.group(1).replace("\"", "");
                out.append("check.due(\"" + title + "\", " + call.group(1) + ", " + call.group(3) + ");\n");
            } else {
                out.append(line).append('\n');
            }
        }
        return out.append("} }\n").toString();
    }

    private static void run(Path folder, String source, Check check) throws Exception {
        Path file = folder.resolve("Example.java");
        Files.writeString(file, source);
        String here = System.getProperty("java.class.path");
        int code = ToolProvider.getSystemJavaCompiler().run(
            null, null, null, "-proc:none", "-cp", here, "-d", folder.toString(), file.toString());
        check.due("javac of the example", code, 0);
        if (code == 0) {
            try (URLClassLoader loader = new URLClassLoader(new URL[] {folder.toUri().toURL()})) {
                loader.loadClass("Example").getMethod("run", Check.class).invoke(null, check);
            }
        }
    }

    private static void remove(Path folder) throws IOException {
        try (Stream<Path> all = Files.walk(folder)) {
            for (Path each : all.sorted(Comparator.reverseOrder()).toList()) {
                Files.delete(each);
            }
        }
    }
}
