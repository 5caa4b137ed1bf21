import java.io.IOException;
import java.lang.reflect.Constructor;
import java.lang.reflect.Field;
import java.lang.reflect.Member;
import java.lang.reflect.Method;
import java.lang.reflect.Modifier;
import java.nio.file.Files;
import java.nio.file.Path;
import java.util.Set;
import java.util.TreeSet;
import java.util.regex.Pattern;

/** The rules of LANGUAGE.md that can be seen in the file's words or in its compiled face. */
public final class LanguageTest {
    private static final Set<String> FACE = Set.of("hours", "pattern", "lend", "bring", "order", "drop", "feed",
        "end", "custom", "fault", "may", "look", "of", "best", "work");

    public static void main(String[] args) throws IOException {
        words();
        face();
        insideClasses();
        Checks.finish();
    }

    private static void words() throws IOException {
        String code = Files.readString(Path.of("src/main/java/GlassValley.java"))
            .replaceAll("(?s)/\\*.*?\\*/", " ").replaceAll("//[^\n]*", " ");
        for (String word : new String[] {"throw", "throws", "try", "catch", "synchronized", "assert", "package",
            "import", "System", "Thread", "Object", "double", "float", "protected", "equals", "hashCode", "toString"}) {
            Checks.due("the word " + word, Pattern.compile("\\b" + word + "\\b").matcher(code).find(), false);
        }
        Checks.due("a lambda", code.contains("->"), false);
        Checks.due("a method reference", code.contains("::"), false);
        Checks.due("a static block", Pattern.compile("static\\s*\\{").matcher(code).find(), false);
    }

    private static void face() {
        Checks.due("public", Modifier.isPublic(GlassValley.class.getModifiers()), true);
        Checks.due("final", Modifier.isFinal(GlassValley.class.getModifiers()), true);
        Set<String> seen = new TreeSet<>();
        for (Method m : GlassValley.class.getDeclaredMethods()) {
            boolean isPublic = Modifier.isPublic(m.getModifiers());
            Checks.due("the method " + m, isPublic, FACE.contains(m.getName()));
            Checks.due("private or public: " + m, isPublic || Modifier.isPrivate(m.getModifiers()), true);
            seen.add(m.getName());
        }
        Checks.due("the whole face", seen.containsAll(FACE), true);
        for (Field f : GlassValley.class.getDeclaredFields()) {
            Checks.due("the field " + f, isPublicOrPrivate(f, f.getName().equals("NONE")), true);
            Checks.due("final if static: " + f, isFinalIfStatic(f), true);
        }
        Constructor<?>[] made = GlassValley.class.getDeclaredConstructors();
        Checks.due("one constructor", made.length, 1);
        Checks.due("which is public", Modifier.isPublic(made[0].getModifiers()), true);
    }

    private static void insideClasses() {
        Class<?>[] inside = GlassValley.class.getDeclaredClasses();
        Checks.due("at most some twelve classes", inside.length <= 11, true);
        for (Class<?> c : inside) {
            Checks.due("static: " + c, Modifier.isStatic(c.getModifiers()), true);
            Checks.due("not public: " + c, Modifier.isPublic(c.getModifiers()), false);
            for (Method m : c.getDeclaredMethods()) {
                Checks.due("a name of the face: " + m, FACE.contains(m.getName()), false);
                Checks.due("seven parameters: " + m, m.getParameterCount() <= 7, true);
            }
            for (Field f : c.getDeclaredFields()) {
                Checks.due("final if static: " + f, isFinalIfStatic(f), true);
            }
            Checks.due("some twenty fields: " + c, c.getDeclaredFields().length <= 20, true);
        }
    }

    private static boolean isPublicOrPrivate(Member m, boolean isPublic) {
        return isPublic ? Modifier.isPublic(m.getModifiers()) : Modifier.isPrivate(m.getModifiers());
    }

    private static boolean isFinalIfStatic(Field f) {
        return !Modifier.isStatic(f.getModifiers()) || Modifier.isFinal(f.getModifiers());
    }
}
