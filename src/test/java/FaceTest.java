import java.lang.reflect.Constructor;
import java.lang.reflect.Field;
import java.lang.reflect.Method;
import java.lang.reflect.Modifier;
import java.nio.file.Files;
import java.nio.file.Path;
import java.util.ArrayList;
import java.util.Arrays;
import java.util.List;
import java.util.Set;
import java.util.TreeSet;
import java.util.regex.Matcher;
import java.util.regex.Pattern;
import java.util.stream.Collectors;

/** The public face, and the rules of LANGUAGE.md that a test can look at. */
final class FaceTest {
    private static final Checks CHECKS = new Checks("FaceTest");
    private static final String[] FACE = {
        "int feed(int,int,int,int,int)", "int book(int)", "int fault()", "int where()", "int kind(int,int)",
        "int rule(int,int)", "int meeting(int,int,int,int,int,int)", "int drawings(int)", "int drawing(int,int)",
        "int point(int,int)", "int joined(int,int)", "int side(int,int)", "int pairings()",
        "int same(int,int,int,int,int,int,int)", "long sum(int,int,int,boolean)", "long byPairings(int,int,int,boolean)",
        "boolean number(int,int)", "boolean letter(int,int)", "boolean at(int)", "boolean parted(int,int,int)",
        "boolean whole(int,int,int)", "long worth(boolean)", "int rest(int)", "int pole()", "int count(int)", "int trouble()",
    };
    // Written so that none of them can stand in a name of the class's own.
    private static final String[] FORBIDDEN = {
        "->", "::", "\\bcatch\\b", "\\btry\\b", "\\bfinally\\b", "\\bsynchronized\\b", "\\bassert\\b", "\\bvar\\b",
        "Exact\\(", "\\bthis::", "\\bSystem\\.(?!arraycopy)", "\\bThread\\b", "\\bRandom\\b", "\\bMath\\.random\\b",
        "\\bequals\\(", "\\bhashCode\\(", "\\btoString\\(", "\\bprotected\\b", "\\bstatic\\s*\\{", "\\bdouble\\b", "\\bfloat\\b",
        "\\bString\\b", "\\bnew ArrayList\\b", "\\bLong\\.M", "\\bInteger\\.M",
    };

    public static void main(String[] args) throws Exception {
        face();
        shape(DrawnWays.class);
        for (Class<?> inside : DrawnWays.class.getDeclaredClasses()) {
            int m = inside.getModifiers();
            holds(inside + " is static, and private or package-visible", Modifier.isStatic(m) && !Modifier.isPublic(m)
                    && !Modifier.isProtected(m));
            shape(inside);
        }
        holds("at most twelve classes", DrawnWays.class.getDeclaredClasses().length < 12);
        source(Files.readString(Path.of(args.length > 0 ? args[0] : "src/main/java/DrawnWays.java")));
        CHECKS.end();
    }

    private static void holds(String what, boolean truth) {
        CHECKS.due(what, truth, true);
    }

    private static void face() throws Exception {
        int m = DrawnWays.class.getModifiers();
        holds("the class is public and final", Modifier.isPublic(m) && Modifier.isFinal(m));
        Set<String> found = new TreeSet<>();
        for (Method method : DrawnWays.class.getDeclaredMethods()) {
            String text = method.getReturnType() + " " + method.getName() + "("
                    + Arrays.stream(method.getParameterTypes()).map(Class::getName).collect(Collectors.joining(",")) + ")";
            if (Modifier.isPrivate(method.getModifiers())) {
                holds("private " + text + " bears no name of the face", !inFace(method.getName()));
            } else {
                holds(text + " is public and no more", method.getModifiers() == Modifier.PUBLIC);
                found.add(text);
            }
        }
        holds("the methods of the document: " + found, found.equals(new TreeSet<>(Arrays.asList(FACE))));
        Constructor<?>[] constructors = DrawnWays.class.getDeclaredConstructors();
        holds("one constructor", constructors.length == 1 && constructors[0].getParameterCount() == 0
                && Modifier.isPublic(constructors[0].getModifiers()));
        for (Field field : DrawnWays.class.getDeclaredFields()) {
            holds(field + " is private", Modifier.isPrivate(field.getModifiers()) || field.getName().equals("NONE"));
        }
        Field none = DrawnWays.class.getField("NONE");
        holds("NONE is a constant", none.getModifiers() == (Modifier.PUBLIC | Modifier.STATIC | Modifier.FINAL));
        CHECKS.due("NONE", DrawnWays.NONE, -1);
        Class<?>[] thrown = DrawnWays.class.getMethod("side", int.class, int.class).getExceptionTypes();
        holds("side() says what it throws", thrown.length == 1 && thrown[0] == java.util.NoSuchElementException.class);
    }

    private static boolean inFace(String name) {
        return Arrays.stream(FACE).anyMatch(f -> f.contains(" " + name + "("));
    }

    // Rules 1, 5 and 11
    private static void shape(Class<?> type) {
        List<String> own = new ArrayList<>();
        for (Field field : type.getDeclaredFields()) {
            if (Modifier.isStatic(field.getModifiers())) {
                holds(field + " is final", Modifier.isFinal(field.getModifiers()));
            } else {
                own.add(field.getName());
            }
        }
        holds(type + " has some twenty fields: " + own.size(), own.size() <= 21);
        for (Method method : type.getDeclaredMethods()) {
            holds(method + " has at most seven parameters", method.getParameterCount() <= 7);
            if (type != DrawnWays.class) {
                holds(method + " bears no name of the face", !inFace(method.getName()));
            }
        }
    }

    private static void source(String text) {
        String code = text.replaceAll("(?s)/\\*.*?\\*/", "").replaceAll("//[^\n]*", "");
        for (String pattern : FORBIDDEN) {
            Matcher m = Pattern.compile(pattern).matcher(code);
            holds("the source has no " + pattern, !m.find());
        }
        Matcher imports = Pattern.compile("import ([^;]*);").matcher(code);
        while (imports.find()) {
            CHECKS.due("import " + imports.group(1), imports.group(1).equals("java.util.NoSuchElementException"), true);
        }
        Matcher throwsAt = Pattern.compile("throw new (\\w+)\\(").matcher(code);
        int throwing = 0;
        while (throwsAt.find()) {
            throwing++;
            holds("throws " + throwsAt.group(1), throwsAt.group(1).equals("NoSuchElementException"));
        }
        CHECKS.due("throw statements", throwing, 1);
        holds("no package", !Pattern.compile("^\\s*package ", Pattern.MULTILINE).matcher(code).find());
        holds("ASCII alone", text.chars().allMatch(c -> c == '\n' || c >= 32 && c < 127));
        methodLengths(code.split("\n", -1));
        madeWithTheObject(code.split("\n", -1));
    }

    // Rule 12, and what README.md says: a call makes nothing but the exception that it throws.
    private static void madeWithTheObject(String[] lines) {
        for (String line : lines) {
            if (line.matches(".*\\bnew\\b.*")) {
                holds("made with the object, or thrown: " + line.trim(),
                        line.matches(" {4}( {4})?private (static )?(final )?[\\w\\[\\]]+ \\w+ = new .*;")
                        || line.matches(" +throw new NoSuchElementException\\(\\);"));
            }
        }
    }

    // A method's body ends at the brace that stands as far in as its first line.
    private static void methodLengths(String[] lines) {
        for (int i = 0; i < lines.length; i++) {
            if (lines[i].matches(" {4}( {4})?[\\w].*\\) .*\\{") && !lines[i].contains(" class ")) {
                String close = lines[i].replaceAll("\\S.*", "") + "}";
                int end = i;
                while (end < lines.length && !lines[end].equals(close)) {
                    end++;
                }
                holds("some sixty lines at most: " + lines[i].trim(), end - i <= 60);
            }
        }
    }
}
