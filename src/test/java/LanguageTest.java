import java.io.IOException;
import java.lang.reflect.Array;
import java.lang.reflect.Constructor;
import java.lang.reflect.Field;
import java.lang.reflect.Method;
import java.lang.reflect.Modifier;
import java.nio.file.Files;
import java.nio.file.Path;
import java.util.ArrayList;
import java.util.Collections;
import java.util.IdentityHashMap;
import java.util.List;
import java.util.Set;
import java.util.TreeSet;
import java.util.regex.Matcher;
import java.util.regex.Pattern;

/** Those rules of LANGUAGE.md that can be looked at from outside, by their numbers. */
public final class LanguageTest {
    private static final Check CHECK = new Check("LanguageTest");
    private static final Pattern LIBRARY = Pattern.compile("\\b([A-Z][A-Za-z]*)\\.([a-z][A-Za-z]*)\\(");
    private static final Pattern THROW = Pattern.compile(
            "throw new (IllegalState|IllegalArgument|IndexOutOfBounds)Exception\\(\"[^\"]*\"\\);");
    private static final Pattern HEAD = Pattern.compile(
            "( {4}| {8})(?:[a-z]+ )*(?:[A-Za-z\\[\\]]+ )?([A-Za-z]+)\\([^;]*\\)[^;]*\\{");
    private static final Pattern ROW_OF_OBJECT = Pattern.compile(" {8}final [A-Za-z]+(\\[])? [a-z]+ = new .*");
    private static final Set<String> LIBRARY_USED = Set.of(
            "Math.abs", "Math.floorMod", "Math.min", "System.arraycopy");
    private static final String[] RULED_OUT = {"import ", "package ", "->", "::", "assert ", "finally",
        "synchronized", "try ", "catch", "throws Exception", "Random", "System.nano", "System.current", "Thread",
        "instanceof", "hashCode", "toString", "native ", "volatile ", "double ", "float "};

    private static List<String> lines;

    public static void main(String[] args) throws IOException {
        lines = wholeLines(Files.readAllLines(Path.of("src/main/java/DrawnPaths.java")));
        CHECK.sentence("rules 1 and 2: static classes inside", LanguageTest::classesInside);
        CHECK.sentence("rules 2, 6, 13: what is ruled out", LanguageTest::ruledOut);
        CHECK.sentence("rule 4: the library", LanguageTest::library);
        CHECK.sentence("rule 5: static fields are final constants", LanguageTest::staticFields);
        CHECK.sentence("rule 6: throw new E(\"a written text\")", LanguageTest::throwsAlone);
        CHECK.sentence("rule 11: short methods with few parameters", LanguageTest::methods);
        CHECK.sentence("rule 12: objects are made by constructors alone", LanguageTest::objectsMade);
        CHECK.sentence("rule 12: what is kept stays as it was made", LanguageTest::objectsKept);
        CHECK.end();
    }

    /** A head of a method that goes over two lines becomes one. */
    private static List<String> wholeLines(List<String> read) {
        List<String> whole = new ArrayList<>();
        for (String line : read) {
            if (line.startsWith("            throws ")) {
                int last = whole.size() - 1;
                whole.set(last, whole.get(last) + " " + line.trim());
            } else {
                whole.add(line);
            }
        }
        return whole;
    }

    private static List<Class<?>> classes() {
        List<Class<?>> all = new ArrayList<>(List.of(DrawnPaths.class.getDeclaredClasses()));
        all.add(DrawnPaths.class);
        return all;
    }

    private static void classesInside() {
        CHECK.same("some twelve classes", true, classes().size() <= 12);
        for (Class<?> one : DrawnPaths.class.getDeclaredClasses()) {
            CHECK.same(one.getName() + " is private", true, Modifier.isPrivate(one.getModifiers()));
            CHECK.same(one.getName() + " is static", true, Modifier.isStatic(one.getModifiers()));
            CHECK.same(one.getName() + " has none inside", 0, one.getDeclaredClasses().length);
        }
    }

    private static void ruledOut() {
        for (String line : lines) {
            for (String word : RULED_OUT) {
                CHECK.same("'" + word + "' stands in: " + line.trim(), false, line.contains(word));
            }
        }
    }

    private static void library() {
        Set<String> inside = new TreeSet<>();
        for (Class<?> one : classes()) {
            inside.add(one.getSimpleName());
        }
        for (String line : lines) {
            Matcher call = LIBRARY.matcher(line);
            while (call.find()) {
                if (!inside.contains(call.group(1))) {
                    String used = call.group(1) + "." + call.group(2);
                    CHECK.same(used + " is one of those listed", true, LIBRARY_USED.contains(used));
                }
            }
        }
    }

    private static void staticFields() {
        for (Class<?> one : classes()) {
            int own = 0;
            for (Field field : one.getDeclaredFields()) {
                if (Modifier.isStatic(field.getModifiers())) {
                    CHECK.same(field + " is final", true, Modifier.isFinal(field.getModifiers()));
                    CHECK.same(field + " is a number", true, field.getType().isPrimitive());
                } else {
                    own++;
                }
            }
            CHECK.same(one.getName() + " has few fields", true, own <= 20);
        }
    }

    private static void throwsAlone() {
        for (String line : lines) {
            if (line.contains("throw ")) {
                CHECK.same(line.trim() + " is as it may be", true, THROW.matcher(line.trim()).matches());
            }
        }
    }

    private static void methods() {
        for (Class<?> one : classes()) {
            for (Method method : one.getDeclaredMethods()) {
                CHECK.same(method + " has few parameters", true, method.getParameterCount() <= 7);
            }
            for (Constructor<?> made : one.getDeclaredConstructors()) {
                CHECK.same(made + " has few parameters", true, made.getParameterCount() <= 7);
            }
        }
        int begun = -1;
        String end = "";
        for (int k = 0; k < lines.size(); k++) {
            Matcher head = HEAD.matcher(lines.get(k));
            if (head.matches()) {
                begun = k;
                end = head.group(1) + "}";
            } else if (begun >= 0 && lines.get(k).equals(end)) {
                CHECK.same(lines.get(begun).trim() + " is short", true, k - begun < 60);
                begun = -1;
            }
        }
    }

    private static void objectsMade() {
        boolean inConstructor = false;
        for (String line : lines) {
            Matcher head = HEAD.matcher(line);
            if (head.matches()) {
                inConstructor = Character.isUpperCase(head.group(2).charAt(0));
            }
            boolean made = line.contains("new ") && !line.contains("throw new ") && !line.trim().startsWith("*");
            if (made) {
                boolean due = inConstructor || ROW_OF_OBJECT.matcher(line).matches();
                CHECK.same("made by a constructor: " + line.trim(), true, due);
            }
        }
    }

    private static void objectsKept() {
        DrawnPaths paths = new DrawnPaths();
        Set<Object> before = partsOf(paths);
        CHECK.same("its parts are few", true, before.size() < 100);
        for (int round = 0; round < 20; round++) {
            Check.draw(paths, round % 8, "1f?\"ab\"n07CR");
            paths.input(round);
            paths.start();
            paths.fast(500);
            paths.count(6);
            paths.output();
        }
        paths.clear();
        Set<Object> after = partsOf(paths);
        CHECK.same("as many parts as before", before.size(), after.size());
        CHECK.same("the same parts as before", true, after.containsAll(before));
    }

    private static Set<Object> partsOf(Object whole) {
        Set<Object> seen = Collections.newSetFromMap(new IdentityHashMap<>());
        List<Object> waiting = new ArrayList<>();
        waiting.add(whole);
        while (!waiting.isEmpty()) {
            Object part = waiting.remove(waiting.size() - 1);
            if (part != null && seen.add(part)) {
                addParts(part, waiting);
            }
        }
        return seen;
    }

    private static void addParts(Object whole, List<Object> waiting) {
        Class<?> kind = whole.getClass();
        if (kind.isArray()) {
            for (int k = 0; !kind.getComponentType().isPrimitive() && k < Array.getLength(whole); k++) {
                waiting.add(Array.get(whole, k));
            }
            return;
        }
        for (Field field : kind.getDeclaredFields()) {
            if (!Modifier.isStatic(field.getModifiers()) && !field.getType().isPrimitive()) {
                field.setAccessible(true);
                waiting.add(valueOf(field, whole));
            }
        }
    }

    private static Object valueOf(Field field, Object whole) {
        try {
            return field.get(whole);
        } catch (IllegalAccessException e) {
            throw new IllegalStateException(field.getName());
        }
    }
}
