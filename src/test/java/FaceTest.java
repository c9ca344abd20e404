import java.io.IOException;
import java.lang.reflect.Constructor;
import java.lang.reflect.Field;
import java.lang.reflect.Method;
import java.lang.reflect.Modifier;
import java.nio.file.Files;
import java.nio.file.Path;
import java.util.Set;
import java.util.TreeSet;
import java.util.regex.Pattern;

/** The public face of the document, and rules of LANGUAGE.md that can be read off the file. */
public final class FaceTest {
    private static final Set<String> FACE = Set.of(
        "int request(int,boolean)", "int alive(int,long)", "int tick(long)", "int state(int)",
        "int wake(int,long)", "int bit(int,int,boolean)", "int needs(int,long)",
        "int coordinate(int,int)", "int passive(int,boolean)", "int never(int)",
        "int limp(int,long)", "boolean sleeps()");

    private static final String[] FORBIDDEN = {
        "\\bthrow\\b", "\\btry\\b", "\\bcatch\\b", "\\bsynchronized\\b", "\\bassert\\b",
        "->", "::", "\\bimport\\b", "\\bpackage\\b", "Exact\\b", "\\bstatic\\s*\\{"};

    private static final Check CHECK = new Check();

    public static void main(String[] args) throws IOException {
        classItself();
        methods();
        fields();
        text();
        CHECK.end();
    }

    private static void classItself() {
        CHECK.due("class is public", Modifier.isPublic(BusSleep.class.getModifiers()), true);
        CHECK.due("class is final", Modifier.isFinal(BusSleep.class.getModifiers()), true);
        Constructor<?>[] all = BusSleep.class.getDeclaredConstructors();
        CHECK.due("constructors", all.length, 1);
        CHECK.due("constructor is public", Modifier.isPublic(all[0].getModifiers()), true);
        CHECK.due("constructor takes an int",
            all[0].getParameterCount() == 1 && all[0].getParameterTypes()[0] == int.class, true);
        for (Class<?> inside : BusSleep.class.getDeclaredClasses()) {
            CHECK.due(inside + " is static", Modifier.isStatic(inside.getModifiers()), true);
            CHECK.due(inside + " is public", Modifier.isPublic(inside.getModifiers()), false);
        }
    }

    private static void methods() {
        Set<String> seen = new TreeSet<>();
        Set<String> names = new TreeSet<>();
        for (Method method : BusSleep.class.getDeclaredMethods()) {
            if (Modifier.isPublic(method.getModifiers())) {
                seen.add(signature(method));
                names.add(method.getName());
            }
        }
        CHECK.due("public methods " + seen, seen.equals(FACE), true);
        for (Method method : BusSleep.class.getDeclaredMethods()) {
            if (!Modifier.isPublic(method.getModifiers())) {
                CHECK.due(method + " is private", Modifier.isPrivate(method.getModifiers()), true);
                CHECK.due(method + " has a public name", names.contains(method.getName()), false);
            }
        }
    }

    private static String signature(Method method) {
        StringBuilder text = new StringBuilder();
        text.append(method.getReturnType().getName()).append(' ').append(method.getName()).append('(');
        String comma = "";
        for (Class<?> type : method.getParameterTypes()) {
            text.append(comma).append(type.getName());
            comma = ",";
        }
        return text.append(')').toString();
    }

    private static void fields() {
        for (Field field : BusSleep.class.getDeclaredFields()) {
            int modifiers = field.getModifiers();
            CHECK.due(field + " is private", Modifier.isPrivate(modifiers), true);
            if (Modifier.isStatic(modifiers)) {
                CHECK.due(field + " is final", Modifier.isFinal(modifiers), true);
            }
        }
    }

    private static void text() throws IOException {
        String source = Files.readString(Path.of("src/main/java/BusSleep.java"));
        String code = source.replaceAll("(?s)/\\*.*?\\*/", "").replaceAll("//[^\n]*", "");
        for (String word : FORBIDDEN) {
            CHECK.due("the file has " + word, Pattern.compile(word).matcher(code).find(), false);
        }
    }
}
