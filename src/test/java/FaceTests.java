import java.io.IOException;
import java.lang.reflect.Constructor;
import java.lang.reflect.Field;
import java.lang.reflect.Method;
import java.lang.reflect.Modifier;
import java.nio.charset.StandardCharsets;
import java.nio.file.Files;
import java.nio.file.Path;
import java.util.Arrays;
import java.util.Set;
import java.util.TreeSet;
import java.util.regex.Matcher;
import java.util.regex.Pattern;
import java.util.stream.Collectors;

/** The public face, and those rules of LANGUAGE.md that a look at the source can check. */
final class FaceTests {
    private static final String[] FACE = {
        "int setCam(int, int, boolean) throws IndexOutOfBoundsException",
        "int setPawl(int, int) throws IllegalArgumentException",
        "int setCylinder(int, int, int, int) throws IndexOutOfBoundsException, IllegalArgumentException",
        "int setAir(int, int) throws IllegalArgumentException",
        "int addGuard(int, int, int) throws IndexOutOfBoundsException, IllegalArgumentException, IllegalStateException",
        "int removeGuard(int) throws IndexOutOfBoundsException",
        "int turn(int) throws IndexOutOfBoundsException",
        "int run(int) throws IllegalArgumentException, IllegalStateException",
        "boolean cam(int, int) throws IndexOutOfBoundsException",
        "int cylinder(int, int) throws IndexOutOfBoundsException, IllegalArgumentException",
        "int guard(int, int) throws IndexOutOfBoundsException, IllegalArgumentException",
        "int value(int) throws IllegalArgumentException",
        "int chart(int, int) throws IndexOutOfBoundsException",
        "int skips(int) throws IndexOutOfBoundsException",
        "int ticksToOut(int) throws IndexOutOfBoundsException",
        "int ticksToCycle()",
        "int leastCompressor(int) throws IllegalArgumentException",
        "int shortestDwell()",
        "boolean repeats()",
        "double useful()",
        "int append(int) throws IllegalArgumentException, IllegalStateException",
        "int clearText()",
        "int parse()",
        "int undo() throws IllegalStateException",
        "long digest()",
    };

    // What the rules rule out wherever it stands in the code: a word, or a sign.
    private static final String RULED_OUT = "\\b(package|catch|finally|synchronized|assert|volatile|native|transient"
            + "|hashCode|getMessage|Random|Thread|System\\.(?!arraycopy)\\w+|Math\\.\\w+Exact)\\b|->|::|\\?\\?";

    private static String source;

    private FaceTests() {
    }

    static void run(String path) {
        Check.test("the source is read", () -> source = withoutComments(read(path)));
        Check.test("the face: methods", FaceTests::methods);
        Check.test("the face: constructor, constant and nothing else", FaceTests::others);
        Check.test("the language: no private method has a public one's name", FaceTests::names);
        Check.test("the language: static fields are final constants", FaceTests::statics);
        Check.test("the language: nothing that the rules rule out", FaceTests::ruledOut);
        Check.test("the language: short methods, few classes and fields", FaceTests::sizes);
    }

    private static String read(String path) throws IOException {
        return new String(Files.readAllBytes(Path.of(path)), StandardCharsets.UTF_8);
    }

    private static String withoutComments(String text) {
        return text.replaceAll("(?s)/\\*.*?\\*/", " ").replaceAll("//[^\n]*", " ");
    }

    private static String told(Method method) {
        String parameters = Arrays.stream(method.getParameterTypes())
                .map(Class::getSimpleName).collect(Collectors.joining(", "));
        String thrown = Arrays.stream(method.getExceptionTypes())
                .map(Class::getSimpleName).collect(Collectors.joining(", "));
        return method.getReturnType().getSimpleName() + " " + method.getName() + "(" + parameters + ")"
                + (thrown.isEmpty() ? "" : " throws " + thrown);
    }

    private static void methods() {
        Set<String> open = new TreeSet<>();
        for (Method method : CamDrum.class.getDeclaredMethods()) {
            if (!Modifier.isPrivate(method.getModifiers())) {
                Check.same("modifiers of " + method.getName(), Modifier.toString(method.getModifiers()), "public");
                open.add(told(method));
            }
        }
        Check.same("methods", open, new TreeSet<>(Arrays.asList(FACE)));
    }

    private static void others() throws Exception {
        Check.same("the class", Modifier.toString(CamDrum.class.getModifiers()), "public final");
        Check.same("constructors", CamDrum.class.getDeclaredConstructors().length, 1);
        Constructor<?> made = CamDrum.class.getDeclaredConstructor();
        Check.same("the constructor", Modifier.toString(made.getModifiers()), "public");
        for (Field field : CamDrum.class.getDeclaredFields()) {
            if (!Modifier.isPrivate(field.getModifiers())) {
                Check.same("open field", field.getName(), "NONE");
                Check.same("NONE", Modifier.toString(field.getModifiers()), "public static final");
                Check.same("NONE", field.getInt(null), -1);
            }
        }
        Check.same("NONE", CamDrum.NONE, -1);
        for (Class<?> inside : CamDrum.class.getDeclaredClasses()) {
            int modifiers = inside.getModifiers();
            Check.same(inside.getName(), Modifier.isStatic(modifiers)
                    && !Modifier.isPublic(modifiers) && !Modifier.isProtected(modifiers), true);
        }
    }

    private static void names() {
        Set<String> open = new TreeSet<>();
        for (String line : FACE) {
            open.add(line.substring(line.indexOf(' ') + 1, line.indexOf('(')));
        }
        for (Method method : CamDrum.class.getDeclaredMethods()) {
            if (Modifier.isPrivate(method.getModifiers())) {
                Check.same(method.getName() + " is a name of the face", open.contains(method.getName()), false);
            }
        }
        for (Class<?> inside : CamDrum.class.getDeclaredClasses()) {
            for (Method method : inside.getDeclaredMethods()) {
                Check.same(method.getName() + " is a name of the face", open.contains(method.getName()), false);
            }
        }
    }

    private static void statics() {
        Set<Class<?>> allowed = Set.of(int.class, long.class, boolean.class, char.class, String.class);
        for (Field field : CamDrum.class.getDeclaredFields()) {
            if (Modifier.isStatic(field.getModifiers())) {
                Check.same(field.getName(), Modifier.isFinal(field.getModifiers())
                        && allowed.contains(field.getType()), true);
            }
        }
    }

    private static void ruledOut() {
        Matcher matcher = Pattern.compile(RULED_OUT).matcher(source);
        Check.same("what is ruled out", matcher.find() ? matcher.group() : "nothing", "nothing");
        Matcher imports = Pattern.compile("import ([\\w.]+);").matcher(source);
        while (imports.find()) {
            Check.same("import", imports.group(1), "java.util.Arrays");
        }
        Check.same("signs beyond ASCII", source.chars().anyMatch(sign -> sign > 126), false);
    }

    private static void sizes() {
        Check.same("at most 11 classes inside", CamDrum.class.getDeclaredClasses().length <= 11, true);
        for (Class<?> inside : CamDrum.class.getDeclaredClasses()) {
            Check.same("fields of " + inside.getName(), inside.getDeclaredFields().length <= 20, true);
        }
        // A method's body ends with the brace that stands as deep as its head.
        Matcher heads = Pattern.compile("(?m)^( {4}| {8})\\S[^;=\\n]*\\([^;=]*\\{\\n(?s:.*?)^\\1\\}").matcher(source);
        int methods = 0;
        while (heads.find()) {
            methods++;
            Check.same("a short method: " + heads.group().trim().split("\n")[0],
                    heads.group().split("\n").length <= 60, true);
        }
        Check.same("methods were found", methods > 25, true);
    }
}
