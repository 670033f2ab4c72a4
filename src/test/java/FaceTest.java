import java.lang.reflect.Constructor;
import java.lang.reflect.Field;
import java.lang.reflect.Method;
import java.lang.reflect.Modifier;
import java.util.Set;
import java.util.TreeSet;

/** The document's public face: its constants, its constructor, its methods and what they may throw. */
public final class FaceTest {
    private static final Check CHECK = new Check("FaceTest");
    private static final String PLACE = " throws IndexOutOfBoundsException";
    private static final String ARGUMENT = " throws IllegalArgumentException";
    private static final String PLACE_OR_ARGUMENT = PLACE + ",IllegalArgumentException";
    private static final Set<String> FACE = Set.of(
            "char put(int,int,char)" + PLACE_OR_ARGUMENT, "char sign(int,int)" + PLACE, "boolean type(char)",
            "int lay(int)" + PLACE, "int input(long) throws IllegalStateException", "void clear()",
            "void start()", "int step(int)" + ARGUMENT, "int fast(int)" + ARGUMENT,
            "int pointer(int,int)" + PLACE_OR_ARGUMENT, "long value(int,int)" + PLACE, "int count(int)",
            "int covers(int,int)" + PLACE, "int block(int,int,int,boolean,int)" + PLACE_OR_ARGUMENT,
            "boolean lost(int,int)" + PLACE, "int output()", "int length()", "char charAt(int)");

    public static void main(String[] args) {
        CHECK.same("RUNNING", 0, DrawnPaths.RUNNING);
        CHECK.same("ENDED", 1, DrawnPaths.ENDED);
        CHECK.same("NONE", -1, DrawnPaths.NONE);
        CHECK.same("final and public", Modifier.PUBLIC | Modifier.FINAL, DrawnPaths.class.getModifiers());
        methods();
        fields();
        constructors();
        CHECK.end();
    }

    private static void methods() {
        Set<String> seen = new TreeSet<>();
        Set<String> names = new TreeSet<>();
        for (Method method : DrawnPaths.class.getDeclaredMethods()) {
            if (Modifier.isPublic(method.getModifiers())) {
                seen.add(face(method));
                names.add(method.getName());
            }
        }
        CHECK.same("the public methods", new TreeSet<>(FACE).toString(), seen.toString());
        for (Method method : DrawnPaths.class.getDeclaredMethods()) {
            int modifiers = method.getModifiers();
            if (!Modifier.isPublic(modifiers)) {
                CHECK.same(method.getName() + " is private", true, Modifier.isPrivate(modifiers));
                CHECK.same(method.getName() + " has a name of its own", false, names.contains(method.getName()));
            }
        }
    }

    private static String face(Method method) {
        StringBuilder all = new StringBuilder(method.getReturnType().getName());
        all.append(' ').append(method.getName()).append('(');
        for (int k = 0; k < method.getParameterCount(); k++) {
            all.append(k == 0 ? "" : ",").append(method.getParameterTypes()[k].getName());
        }
        all.append(')');
        for (int k = 0; k < method.getExceptionTypes().length; k++) {
            all.append(k == 0 ? " throws " : ",").append(method.getExceptionTypes()[k].getSimpleName());
        }
        return all.toString();
    }

    private static void fields() {
        Set<String> seen = new TreeSet<>();
        for (Field field : DrawnPaths.class.getDeclaredFields()) {
            int modifiers = field.getModifiers();
            if (Modifier.isPublic(modifiers)) {
                seen.add(field.getType() + " " + field.getName());
                CHECK.same(field.getName() + " is static", true, Modifier.isStatic(modifiers));
            } else {
                CHECK.same(field.getName() + " is private", true, Modifier.isPrivate(modifiers));
            }
        }
        CHECK.same("the public fields", "[int ENDED, int NONE, int RUNNING]", seen.toString());
    }

    private static void constructors() {
        Constructor<?>[] made = DrawnPaths.class.getDeclaredConstructors();
        CHECK.same("constructors", 1, made.length);
        CHECK.same("its parameters", 0, made[0].getParameterCount());
        CHECK.same("it is public", true, Modifier.isPublic(made[0].getModifiers()));
    }
}
