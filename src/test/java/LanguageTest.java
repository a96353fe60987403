import java.io.IOException;
import java.lang.reflect.Constructor;
import java.lang.reflect.Field;
import java.lang.reflect.Method;
import java.lang.reflect.Modifier;
import java.nio.file.Files;
import java.nio.file.Path;
import java.util.TreeSet;
import java.util.regex.Matcher;
import java.util.regex.Pattern;

/** The face of the class, and the rules of LANGUAGE.md that can be seen from the text. */
public final class LanguageTest {
    private static final String FACE = "begin(int,int) come(int,int) count(int) entry(int,int) keeper(int,int) "
        + "knows(int,int) leave(int) letter(int,int,int,int) parent(int,int) pass() passed(int) run(int,int) "
        + "token(int,int) undo() want(int)";

    private LanguageTest() {
    }

    public static void main(String[] args) throws IOException {
        constants();
        face();
        insides();
        text(Files.readString(Path.of("src/main/java/KeyKeepers.java")));
        Check.end();
    }

    private static void holds(String what, boolean it) {
        Check.due("LanguageTest, " + what, it ? 1 : 0, 1);
    }

    private static void constants() {
        Check.due("BAD", KeyKeepers.BAD, -1);
        Check.due("NO", KeyKeepers.NO, -2);
        Check.due("FULL", KeyKeepers.FULL, -3);
        Check.due("NONE", KeyKeepers.NONE, -4);
        Check.due("SPENT", KeyKeepers.SPENT, -5);
    }

    private static void face() {
        TreeSet<String> names = new TreeSet<>();
        TreeSet<String> hidden = new TreeSet<>();
        for (Method method : KeyKeepers.class.getDeclaredMethods()) {
            if (Modifier.isPrivate(method.getModifiers())) {
                hidden.add(method.getName());
                continue;
            }
            holds(method + " is an int method of the object", method.getReturnType() == int.class
                && method.getModifiers() == Modifier.PUBLIC);
            names.add(method.toString().replaceAll(".*KeyKeepers\\.", ""));
        }
        holds("the face is " + names, String.join(" ", names).equals(FACE));
        for (String name : hidden) {
            holds("private " + name + " is no public name", !FACE.matches("(.* )?" + name + "\\(.*"));
        }
        Constructor<?>[] constructors = KeyKeepers.class.getDeclaredConstructors();
        holds("one public constructor", constructors.length == 1
            && constructors[0].getModifiers() == Modifier.PUBLIC && constructors[0].getParameterCount() == 0);
        for (Field field : KeyKeepers.class.getDeclaredFields()) {
            boolean told = "BAD NO FULL NONE SPENT".contains(field.getName());
            holds(field + " is private", told || Modifier.isPrivate(field.getModifiers()));
        }
        holds("final", KeyKeepers.class.getModifiers() == (Modifier.PUBLIC | Modifier.FINAL));
    }

    private static void insides() {
        Class<?>[] insides = KeyKeepers.class.getDeclaredClasses();
        holds("some twelve classes at most", insides.length < 12);
        methods(KeyKeepers.class);
        for (Class<?> inside : insides) {
            holds(inside + " is static", Modifier.isStatic(inside.getModifiers()));
            methods(inside);
            int fields = 0;
            for (Field field : inside.getDeclaredFields()) {
                boolean isStatic = Modifier.isStatic(field.getModifiers());
                holds(field + ", if static, is final", !isStatic || Modifier.isFinal(field.getModifiers()));
                fields += isStatic ? 0 : 1;
            }
            holds(inside + " has some twenty fields at most", fields <= 20);
        }
    }

    private static void methods(Class<?> owner) {
        for (Method method : owner.getDeclaredMethods()) {
            holds(method + " takes seven parameters at most", method.getParameterCount() <= 7);
            boolean isPublicName = FACE.matches("(.* )?" + method.getName() + "\\(.*");
            holds(method + " bears no public name", owner == KeyKeepers.class || !isPublicName);
        }
    }

    /** A method begins by a line that ends with its brackets and a brace, and ends by a brace that stands as far inside. */
    private static void lengths(String source) {
        Pattern begins = Pattern.compile("( {4}| {8})(?!if |for |while |switch |do )\\w[^=]*\\(.*\\) \\{");
        String[] lines = source.split("\n");
        int methods = 0;
        for (int from = 0; from < lines.length; from++) {
            Matcher matcher = begins.matcher(lines[from]);
            if (!matcher.matches()) {
                continue;
            }
            int to = from;
            while (to < lines.length && !lines[to].equals(matcher.group(1) + "}")) {
                to++;
            }
            methods++;
            holds(lines[from].trim() + " has some sixty lines at most", to - from < 60);
        }
        holds("all methods were seen, not " + methods, methods > 50);
    }

    private static void text(String source) {
        lengths(source);
        String code = source.replaceAll("(?s)/\\*.*?\\*/", "").replaceAll("//[^\n]*", "");
        String[] none = {"throw", "throws", "try", "catch", "finally", "synchronized", "assert", "import static",
            "instanceof", "System\\.(?!arraycopy)", "Math\\.(?!max|min)", "Integer\\.(?!bitCount)",
            "Arrays\\.(?!fill)", "String", "->", "::", "@\\w", "yield", "var", "package"};
        for (String word : none) {
            String bounded = word.matches("\\w+") ? "\\b" + word + "\\b" : word;
            Matcher matcher = Pattern.compile(bounded).matcher(code);
            holds("no " + word, !matcher.find());
        }
        Matcher imports = Pattern.compile("(?m)^import (.*);").matcher(code);
        while (imports.find()) {
            holds("import " + imports.group(1), imports.group(1).equals("java.util.Arrays"));
        }
        holds("signs up to 126 alone", source.chars().allMatch(c -> c == '\n' || c >= 32 && c < 127));
    }
}
