import java.io.IOException;
import java.lang.reflect.Constructor;
import java.lang.reflect.Field;
import java.lang.reflect.Member;
import java.lang.reflect.Method;
import java.lang.reflect.Modifier;
import java.nio.file.Files;
import java.nio.file.Path;
import java.util.List;
import java.util.Set;
import java.util.TreeSet;
import java.util.regex.Matcher;
import java.util.regex.Pattern;
import java.util.stream.Collectors;

/** The document's face, and the rules of LANGUAGE.md that can be seen in the file's words or classes. */
public final class LanguageTest {
    private static final Set<String> FACE = Set.of("boolean hours 3", "boolean pattern 4", "boolean lend 2",
        "int bring 1", "int order 4", "boolean drop 1", "int feed 5", "boolean end 1", "int custom 0",
        "int fault 1", "int may 3", "int look 1", "int of 2", "int best 1", "int work 0");
    private static final Set<String> NAMES =
        FACE.stream().map(call -> call.split(" ")[1]).collect(Collectors.toSet());
    private static final Pattern METHOD =
        Pattern.compile("( {4}| {8})(?! |(if|for|while|switch|do|else)\\b)[\\w\\[\\] ]+\\([^()]*\\) \\{");
    private static final int MOST_LINES_A_METHOD = 60;

    public static void main(String[] args) throws IOException {
        words();
        face();
        insideClasses();
        shortMethods();
        Checks.finish();
    }

    private static void words() throws IOException {
        String code = Files.readString(Path.of("src/main/java/GlassValley.java"))
            .replaceAll("(?s)/\\*.*?\\*/", " ").replaceAll("//[^\n]*", " ");
        for (String word : new String[] {"throw", "throws", "try", "catch", "synchronized", "assert", "package",
            "import", "System", "Thread", "Object", "double", "float", "protected", "equals", "hashCode", "toString"}) {
            Checks.due("the word " + word, Pattern.compile("\\b" + word + "\\b").matcher(code).find(), false);
        }
        Checks.due("a lambda", code.contains("->"), false);
        Checks.due("a method reference", code.contains("::"), false);
        Checks.due("a static block", Pattern.compile("static\\s*\\{").matcher(code).find(), false);
    }

    private static void face() {
        Checks.due("public", Modifier.isPublic(GlassValley.class.getModifiers()), true);
        Checks.due("final", Modifier.isFinal(GlassValley.class.getModifiers()), true);
        Checks.due("no package", GlassValley.class.getPackageName().isEmpty(), true);
        Checks.due("no class above", GlassValley.class.getSuperclass() == Object.class, true);
        Checks.due("no interface", GlassValley.class.getInterfaces().length, 0);
        Constructor<?>[] made = GlassValley.class.getDeclaredConstructors();
        Checks.due("one constructor", made.length, 1);
        Checks.due("which is public", Modifier.isPublic(made[0].getModifiers()), true);
        Checks.due("and takes nothing", made[0].getParameterCount(), 0);
        faceOfMethods();
        faceOfFields();
    }

    private static void faceOfMethods() {
        Set<String> seen = new TreeSet<>();
        for (Method m : GlassValley.class.getDeclaredMethods()) {
            if (Modifier.isPublic(m.getModifiers())) {
                seen.add(m.getReturnType() + " " + m.getName() + " " + m.getParameterCount());
                Checks.due("of the object: " + m, Modifier.isStatic(m.getModifiers()), false);
                for (Class<?> kind : m.getParameterTypes()) {
                    Checks.due("takes numbers alone: " + m, kind == int.class, true);
                }
            } else {
                Checks.due("private: " + m, Modifier.isPrivate(m.getModifiers()), true);
                Checks.due("a name of the face: " + m, NAMES.contains(m.getName()), false);
            }
        }
        Checks.due("the face, no more and no less: " + seen, seen.equals(FACE), true);
    }

    private static void faceOfFields() {
        Checks.due("NONE", GlassValley.NONE, -1);
        for (Field f : GlassValley.class.getDeclaredFields()) {
            boolean isConstant = f.getName().equals("NONE");
            Checks.due("the field " + f, isPublicOrPrivate(f, isConstant), true);
            Checks.due("final if static: " + f, isFinalIfStatic(f), true);
            Checks.due("a constant is static: " + f, !isConstant || Modifier.isStatic(f.getModifiers()), true);
        }
    }

    private static void insideClasses() {
        Class<?>[] inside = GlassValley.class.getDeclaredClasses();
        Checks.due("at most some twelve classes", inside.length <= 11, true);
        for (Class<?> c : inside) {
            Checks.due("static: " + c, Modifier.isStatic(c.getModifiers()), true);
            Checks.due("not public: " + c, Modifier.isPublic(c.getModifiers()), false);
            for (Method m : c.getDeclaredMethods()) {
                Checks.due("a name of the face: " + m, NAMES.contains(m.getName()), false);
                Checks.due("seven parameters: " + m, m.getParameterCount() <= 7, true);
            }
            for (Field f : c.getDeclaredFields()) {
                Checks.due("final if static: " + f, isFinalIfStatic(f), true);
            }
            Checks.due("some twenty fields: " + c, c.getDeclaredFields().length <= 20, true);
        }
    }

    private static void shortMethods() throws IOException {
        List<String> lines = Files.readAllLines(Path.of("src/main/java/GlassValley.java"));
        int methods = 0;
        for (int n = 0; n < lines.size(); n++) {
            Matcher method = METHOD.matcher(lines.get(n));
            if (method.matches()) {
                methods++;
                int length = lines.subList(n, lines.size()).indexOf(method.group(1) + "}") + 1;
                Checks.due("some sixty lines: " + lines.get(n).trim(),
                    length > 0 && length <= MOST_LINES_A_METHOD, true);
            }
        }
        Checks.due("methods were found", methods > NAMES.size(), true);
    }

    private static boolean isPublicOrPrivate(Member m, boolean isPublic) {
        return isPublic ? Modifier.isPublic(m.getModifiers()) : Modifier.isPrivate(m.getModifiers());
    }

    private static boolean isFinalIfStatic(Field f) {
        return !Modifier.isStatic(f.getModifiers()) || Modifier.isFinal(f.getModifiers());
    }
}
