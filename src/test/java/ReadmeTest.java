import java.io.IOException;
import java.net.URL;
import java.net.URLClassLoader;
import java.nio.file.Files;
import java.nio.file.Path;
import java.util.ArrayList;
import java.util.List;
import java.util.Set;
import java.util.TreeSet;
import java.util.regex.Matcher;
import java.util.regex.Pattern;
import java.util.stream.Stream;
import javax.tools.JavaCompiler;
import javax.tools.ToolProvider;

/** Runs what README.md shows, and compares the answers that it tells; and looks whether it names every test. */
public final class ReadmeTest {
    private static final Due DUE = new Due();
    private static final Pattern TOLD = Pattern.compile("^(?:int (\\w+) = )?(.+);\\s+// (-?\\d+)(?:: .*)?$");
    private static final Pattern CALLED = Pattern.compile("\\bx\\.(\\w+)\\(");

    public static void main(String[] args) throws Exception {
        String page = Files.readString(Path.of("README.md"));
        List<String> shown = shown(page);
        DUE.holds("README.md shows a use", shown.size() > 10);
        showsEveryCall(shown);
        Path made = Files.createTempDirectory("readme");
        try {
            runs(shown, made);
        } finally {
            removes(made);
        }
        namesEveryTest(page);
        DUE.end();
    }

    /** The lines of its blocks of Java. */
    private static List<String> shown(String page) {
        List<String> lines = new ArrayList<>();
        boolean isJava = false;
        for (String line : page.split("\n")) {
            if (line.startsWith("```")) {
                isJava = line.equals("```java");
            } else if (isJava && !line.isBlank()) {
                lines.add(line);
            }
        }
        return lines;
    }

    private static void showsEveryCall(List<String> shown) {
        Set<String> calls = new TreeSet<>();
        for (String line : shown) {
            Matcher call = CALLED.matcher(line);
            while (call.find()) {
                calls.add(call.group(1));
            }
        }
        for (var method : OtherSidesPump.class.getDeclaredMethods()) {
            if (java.lang.reflect.Modifier.isPublic(method.getModifiers())) {
                DUE.holds("README.md shows " + method.getName(), calls.contains(method.getName()));
            }
        }
    }

    private static void runs(List<String> shown, Path made) throws Exception {
        List<String> calls = new ArrayList<>();
        List<Long> told = new ArrayList<>();
        Path source = made.resolve("Readme.java");
        Files.writeString(source, program(shown, calls, told));
        JavaCompiler compiler = ToolProvider.getSystemJavaCompiler();
        String[] how = {"-nowarn", "-cp", System.getProperty("java.class.path"), "-d", made.toString(), source.toString()};
        boolean isCompiled = compiler != null && compiler.run(null, null, null, how) == 0;
        DUE.holds("what README.md shows is Java", isCompiled);
        if (!isCompiled) {
            return;
        }
        try (URLClassLoader loader = new URLClassLoader(new URL[] {made.toUri().toURL()})) {
            long[] got = (long[]) loader.loadClass("Readme").getMethod("answers").invoke(null);
            DUE.holds("README.md tells answers", got.length == told.size() && got.length > 50);
            for (int i = 0; i < got.length; i++) {
                DUE.is(0, "README.md: " + calls.get(i), got[i], told.get(i));
            }
        }
    }

    /** The lines shown as one method that answers what the calls with a told answer answered. */
    private static String program(List<String> shown, List<String> calls, List<Long> told) {
        StringBuilder body = new StringBuilder();
        for (String line : shown) {
            Matcher tells = TOLD.matcher(line);
            if (!tells.matches()) {
                DUE.holds("README.md tells an answer, or has no remark: " + line, !line.contains("//"));
                body.append(line).append('\n');
                continue;
            }
            String answer = tells.group(2);
            if (tells.group(1) != null) {
                body.append("int ").append(tells.group(1)).append(" = ").append(answer).append(";\n");
                answer = tells.group(1);
            }
            body.append("got[").append(calls.size()).append("] = ").append(answer).append(";\n");
            calls.add(tells.group(2));
            told.add(Long.parseLong(tells.group(3)));
        }
        return "public class Readme { public static long[] answers() { long[] got = new long[" + calls.size() + "];\n"
            + body + "return got; } }\n";
    }

    private static void namesEveryTest(String page) throws IOException {
        Set<String> named = new TreeSet<>();
        Matcher row = Pattern.compile("(?m)^\\| (\\w+Test) \\|").matcher(page);
        while (row.find()) {
            named.add(row.group(1));
        }
        Set<String> there = new TreeSet<>();
        try (Stream<Path> files = Files.list(Path.of("src/test/java"))) {
            for (Path file : files.toList()) {
                String name = file.getFileName().toString();
                if (name.endsWith("Test.java")) {
                    there.add(name.substring(0, name.length() - ".java".length()));
                }
            }
        }
        DUE.holds("README.md names " + named + ", there are " + there, named.equals(there));
        DUE.holds("README.md runs the tests by .ci/run", page.contains("\n    .ci/run\n"));
        DUE.holds(".ci/run can be run", Files.isExecutable(Path.of(".ci/run")));
    }

    private static void removes(Path directory) throws IOException {
        try (Stream<Path> files = Files.list(directory)) {
            for (Path file : files.toList()) {
                Files.delete(file);
            }
        }
        Files.delete(directory);
    }
}
