import java.lang.reflect.Method;
import java.net.URL;
import java.net.URLClassLoader;
import java.nio.file.Files;
import java.nio.file.Path;
import java.util.ArrayList;
import java.util.List;
import java.util.NoSuchElementException;
import java.util.Set;
import java.util.TreeSet;
import java.util.regex.Matcher;
import java.util.regex.Pattern;
import java.util.stream.Collectors;
import java.util.stream.Stream;
import javax.tools.ToolProvider;

/**
 * The code that README.md shows, compiled as it stands there, with the answers that it gives. Its lines
 * are "call;  // answer: more", "call;  // throws Name: more", or make a new object.
 */
public final class ReadmeTest {
    private static final Checks CHECKS = new Checks("ReadmeTest");
    private static final Pattern BLOCK = Pattern.compile("```java\n(.*?)```", Pattern.DOTALL);
    private static final Pattern CALL = Pattern.compile("((\\w+\\.)?\\w+\\(.*\\));  // ([^:]*)(: .*)?");
    private static final Pattern MADE = Pattern.compile("DrawnWays \\w+ = new DrawnWays\\(\\);");

    /** What a compiled line asks for, so that it may be a call that throws. */
    public interface Asked {
        Object answer() throws Exception;
    }

    public static void main(String[] args) throws Exception {
        Path source = Path.of(args.length > 0 ? args[0] : "src/main/java/DrawnWays.java").toAbsolutePath();
        Path root = source.getParent().getParent().getParent().getParent();
        String page = Files.readString(root.resolve("README.md"));
        everyCallIsShown(page);
        everyTestIsNamed(page, root);
        run(program(page));
        CHECKS.end();
    }

    /** For the compiled code. */
    public static void due(String call, Asked asked, String want) throws Exception {
        String got;
        try {
            got = String.valueOf(asked.answer());
        } catch (NoSuchElementException e) {
            got = "throws NoSuchElementException";
        }
        if (!got.equals(want)) {
            System.out.println("README.md says that " + call + " answers " + want + ", it answers " + got);
        }
        CHECKS.due(call, got.equals(want), true);
    }

    private static void everyCallIsShown(String page) {
        Set<String> shown = new TreeSet<>();
        Matcher block = BLOCK.matcher(page);
        while (block.find()) {
            Matcher name = Pattern.compile("\\w\\.(\\w+)\\(").matcher(block.group(1));
            while (name.find()) {
                shown.add(name.group(1));
            }
        }
        for (Method method : DrawnWays.class.getMethods()) {
            if (method.getDeclaringClass() == DrawnWays.class) {
                CHECKS.due("README.md shows " + method.getName(), shown.contains(method.getName()), true);
            }
        }
    }

    private static void everyTestIsNamed(String page, Path root) throws Exception {
        try (Stream<Path> files = Files.list(root.resolve("src/test/java"))) {
            for (Path file : files.collect(Collectors.toList())) {
                String name = file.getFileName().toString().replace(".java", "");
                CHECKS.due("README.md names " + name, page.contains("`" + name + "`"), true);
            }
        }
    }

    private static String program(String page) {
        StringBuilder members = new StringBuilder();
        StringBuilder lines = new StringBuilder();
        Set<String> names = new TreeSet<>();
        Matcher block = BLOCK.matcher(page);
        while (block.find()) {
            if (block.group(1).startsWith("static ")) {
                members.append(block.group(1));
            } else {
                for (String line : block.group(1).split("\n")) {
                    lines.append(statement(line, names));
                }
            }
        }
        return "public final class ReadmeCode {\n" + members + "public static void run() throws Exception {\n"
                + lines + "}\n}\n";
    }

    private static String statement(String line, Set<String> names) {
        Matcher call = CALL.matcher(line);
        if (call.matches()) {
            String asked = call.group(1);
            return "ReadmeTest.due(\"" + asked.replace("\"", "\\\"") + "\", () -> " + asked + ", \""
                    + call.group(3) + "\");\n";
        }
        CHECKS.due("a line of README.md that is neither a call with its answer nor a new object: " + line,
                MADE.matcher(line).matches(), true);
        CHECKS.due("a new object has a new name: " + line, names.add(line), true);
        return line + "\n";
    }

    private static void run(String program) throws Exception {
        Path out = Files.createTempDirectory("readme");
        Path file = out.resolve("ReadmeCode.java");
        Files.writeString(file, program);
        int failed = ToolProvider.getSystemJavaCompiler().run(null, null, null, "-encoding", "UTF-8",
                "-cp", System.getProperty("java.class.path"), "-d", out.toString(), file.toString());
        CHECKS.due("compiling what README.md shows", failed, 0);
        if (failed == 0) {
            try (URLClassLoader loader = new URLClassLoader(new URL[] {out.toUri().toURL()})) {
                loader.loadClass("ReadmeCode").getMethod("run").invoke(null);
            }
        }
        List<Path> made = new ArrayList<>(List.of(file, out.resolve("ReadmeCode.class")));
        made.add(out);
        for (Path path : made) {
            Files.deleteIfExists(path);
        }
    }
}
