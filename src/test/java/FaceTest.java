import java.io.IOException;
import java.lang.reflect.Constructor;
import java.lang.reflect.Field;
import java.lang.reflect.Method;
import java.lang.reflect.Modifier;
import java.nio.file.Files;
import java.nio.file.Path;
import java.util.Set;
import java.util.TreeSet;

/** The document's face, and those rules of LANGUAGE.md that can be looked at from outside. */
public final class FaceTest {
    private static final Check CHECK = new Check("FaceTest");
    private static final Set<String> FACE = Set.of(
            "char put(int,int,char)", "char sign(int,int)", "boolean type(char)", "int lay(int)",
            "int input(long)", "void clear()", "void start()", "int step(int)", "int fast(int)",
            "int pointer(int,int)", "long value(int,int)", "int count(int)", "int covers(int,int)",
            "int block(int,int,int,boolean,int)", "boolean lost(int,int)", "int output()",
            "int length()", "char charAt(int)");
    private static final String[] RULED_OUT = {"import ", "package ", "->", "::", "assert ", "finally",
        "synchronized", "try ", "catch", "Random", "System.nano", "System.current", "Thread"};

    public static void main(String[] args) throws IOException {
        CHECK.same("RUNNING", 0, DrawnPaths.RUNNING);
        CHECK.same("ENDED", 1, DrawnPaths.ENDED);
        CHECK.same("NONE", -1, DrawnPaths.NONE);
        CHECK.same("final and public", Modifier.PUBLIC | Modifier.FINAL, DrawnPaths.class.getModifiers());
        methods();
        fields();
        constructors();
        classesInside();
        source();
        CHECK.end();
    }

    private static void methods() {
        Set<String> seen = new TreeSet<>();
        Set<String> names = new TreeSet<>();
        for (Method method : DrawnPaths.class.getDeclaredMethods()) {
            if (Modifier.isPublic(method.getModifiers())) {
                seen.add(face(method));
                names.add(method.getName());
            }
        }
        CHECK.same("the public methods", new TreeSet<>(FACE).toString(), seen.toString());
        for (Method method : DrawnPaths.class.getDeclaredMethods()) {
            int modifiers = method.getModifiers();
            if (!Modifier.isPublic(modifiers)) {
                CHECK.same(method.getName() + " is private", true, Modifier.isPrivate(modifiers));
                CHECK.same(method.getName() + " has a name of its own", false, names.contains(method.getName()));
            }
        }
    }

    private static String face(Method method) {
        StringBuilder all = new StringBuilder(method.getReturnType().getName());
        all.append(' ').append(method.getName()).append('(');
        for (int k = 0; k < method.getParameterCount(); k++) {
            all.append(k == 0 ? "" : ",").append(method.getParameterTypes()[k].getName());
        }
        return all.append(')').toString();
    }

    private static void fields() {
        Set<String> seen = new TreeSet<>();
        for (Field field : DrawnPaths.class.getDeclaredFields()) {
            int modifiers = field.getModifiers();
            if (Modifier.isPublic(modifiers)) {
                seen.add(field.getName());
            } else {
                CHECK.same(field.getName() + " is private", true, Modifier.isPrivate(modifiers));
            }
            if (Modifier.isStatic(modifiers)) {
                CHECK.same(field.getName() + " is final", true, Modifier.isFinal(modifiers));
            }
        }
        CHECK.same("the public fields", "[ENDED, NONE, RUNNING]", seen.toString());
    }

    private static void constructors() {
        Constructor<?>[] made = DrawnPaths.class.getDeclaredConstructors();
        CHECK.same("constructors", 1, made.length);
        CHECK.same("its parameters", 0, made[0].getParameterCount());
        CHECK.same("it is public", true, Modifier.isPublic(made[0].getModifiers()));
    }

    private static void classesInside() {
        Class<?>[] inside = DrawnPaths.class.getDeclaredClasses();
        CHECK.same("some twelve classes", true, inside.length <= 12);
        for (Class<?> one : inside) {
            CHECK.same(one.getName() + " is private", true, Modifier.isPrivate(one.getModifiers()));
            CHECK.same(one.getName() + " is static", true, Modifier.isStatic(one.getModifiers()));
            CHECK.same(one.getName() + " has few fields", true, one.getDeclaredFields().length <= 20);
        }
    }

    private static void source() throws IOException {
        String source = Files.readString(Path.of("src/main/java/DrawnPaths.java"));
        for (String word : RULED_OUT) {
            CHECK.same("the program has '" + word + "'", false, source.contains(word));
        }
    }
}
