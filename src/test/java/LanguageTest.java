import java.io.IOException;
import java.lang.reflect.Constructor;
import java.lang.reflect.Field;
import java.lang.reflect.Method;
import java.lang.reflect.Modifier;
import java.nio.file.Files;
import java.nio.file.Path;
import java.util.Arrays;
import java.util.TreeSet;
import java.util.regex.Matcher;
import java.util.regex.Pattern;

/** What can be seen of ../shared/LANGUAGE.md from outside: the face, the words, the sizes. */
public final class LanguageTest {
    private static final String FACE = "all() ask(II) begin() clearText() count(I) far(I) fault(I) field(III) finish(I)"
        + " grey(I) hangs(I) keep() late() make(I) objectOf(II) objects(I) play() refers(II) restore() root(II) set(I)"
        + " step(I) type(I) undo() want(I) weak(II) wouldGo()";
    private static final String CONSTANTS = "INVALID_ARGUMENT=-11 LIMIT_REACHED=-13 NOT_FOUND=-14 NOT_POSSIBLE=-12";
    private static final String BANNED = "\\b(throw|throws|try|catch|finally|synchronized|assert|protected|package|native"
        + "|volatile|transient|equals|hashCode|Thread|Random|currentTimeMillis|nanoTime|HashMap|Object|var)\\b|->|::|@|\\w+Exact\\b";

    private static int failed;
    private static int passed;

    public static void main(String[] args) throws IOException, IllegalAccessException {
        theFace();
        String code = withoutCommentsAndTexts(Files.readString(Path.of(args[0])));
        theWords(code);
        theSizes(code);
        System.out.println("LanguageTest: " + passed + " passed, " + failed + " failed");
        if (failed != 0) {
            System.exit(1);
        }
    }

    private static void due(String what, Object got, Object want) {
        if (got.equals(want)) {
            passed++;
        } else {
            failed++;
            System.out.println(what + ": " + got + ", due is " + want);
        }
    }

    private static void theFace() throws IllegalAccessException {
        Class<?> face = ReachedHeap.class;
        due("the class", Modifier.toString(face.getModifiers()), "public final");
        Constructor<?>[] constructors = face.getDeclaredConstructors();
        due("constructors", constructors.length, 1);
        due("the constructor", constructors[0].toString(), "public ReachedHeap()");
        TreeSet<String> calls = new TreeSet<>();
        TreeSet<String> hidden = new TreeSet<>();
        for (Method method : face.getDeclaredMethods()) {
            if (Modifier.toString(method.getModifiers()).equals("public") && method.getReturnType() == int.class) {
                calls.add(method.getName() + "(" + "I".repeat(method.getParameterCount()) + ")");
            } else {
                due(method.toString(), Modifier.isPrivate(method.getModifiers()), true);
                hidden.add(method.getName());
            }
        }
        due("the calls", String.join(" ", calls), FACE);
        TreeSet<String> constants = new TreeSet<>();
        for (Field field : face.getDeclaredFields()) {
            if (!Modifier.isPrivate(field.getModifiers())) {
                due(field.getName(), Modifier.toString(field.getModifiers()), "public static final");
                constants.add(field.getName() + "=" + field.getInt(null));
            } else {
                due(field.getName(), !Modifier.isStatic(field.getModifiers()) || Modifier.isFinal(field.getModifiers()), true);
            }
        }
        due("the constants", String.join(" ", constants), CONSTANTS);
        theClassesInside(face, hidden);
        TreeSet<String> names = new TreeSet<>(Arrays.asList(FACE.replaceAll("\\(I*\\)", "").split(" ")));
        names.retainAll(hidden);
        due("methods with a name of the face", names.toString(), "[]");
    }

    private static void theClassesInside(Class<?> face, TreeSet<String> hidden) {
        due("few classes", face.getDeclaredClasses().length < 12, true);
        for (Class<?> inside : face.getDeclaredClasses()) {
            due(inside.getName(), Modifier.isStatic(inside.getModifiers()) && !Modifier.isPublic(inside.getModifiers()), true);
            int fields = 0;
            for (Field field : inside.getDeclaredFields()) {
                fields += Modifier.isStatic(field.getModifiers()) ? 0 : 1;
            }
            due("few fields in " + inside.getName(), fields <= 20, true);
            for (Method method : inside.getDeclaredMethods()) {
                hidden.add(method.getName());
            }
        }
    }

    private static String withoutCommentsAndTexts(String source) {
        due("signs", source.chars().allMatch(sign -> sign == '\n' || sign >= 32 && sign < 127), true);
        Matcher part = Pattern.compile("/\\*.*?\\*/|//[^\n]*|\"(\\\\.|[^\"\\\\])*\"|'(\\\\.|[^'\\\\])'", Pattern.DOTALL).matcher(source);
        return part.replaceAll(found -> found.group().startsWith("'") ? "0" : found.group().replaceAll("[^\n]", " "));
    }

    private static void theWords(String code) {
        Matcher word = Pattern.compile(BANNED).matcher(code);
        due("a banned word", word.find() ? word.group() : "none", "none");
        Matcher imported = Pattern.compile("import ([^;]*);").matcher(code);
        while (imported.find()) {
            due("import", imported.group(1).matches("java\\.util\\.(Arrays|ArrayList|List|Iterator)"), true);
        }
        due("static blocks", Pattern.compile("static\\s*\\{").matcher(code).find(), false);
    }

    private static void theSizes(String code) {
        Matcher head = Pattern.compile("\n( {4}| {8})(?:[\\w\\[\\]]+ )+(\\w+)\\(([^)]*)\\) \\{\n(.*?)\n\\1\\}", Pattern.DOTALL).matcher(code);
        int methods = 0;
        int at = 0;
        while (head.find(at)) {
            methods++;
            at = head.end();
            due("parameters of " + head.group(2), head.group(3).split(",").length <= 7, true);
            due("lines of " + head.group(2), head.group(4).split("\n").length <= 50, true);
        }
        due("methods seen", methods >= 27 + 40, true);
    }
}
