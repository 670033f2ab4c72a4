import java.io.IOException;
import java.nio.file.Files;
import java.nio.file.Path;
import java.util.ArrayList;
import java.util.List;
import java.util.regex.Matcher;
import java.util.regex.Pattern;

/** README.md tells each call of the face, in the document's words, and its example holds. */
public final class ReadmeTest {
    private static final Check CHECK = new Check("ReadmeTest");
    private static final Path DOCUMENT = Path.of("../shared/DOC.md");
    private static final Pattern FACE = Pattern.compile(" {4}public ([^={]*\\([^{]*\\)[^{]*) \\{");
    private static final Pattern PROMISE = Pattern.compile("`([^`]+)`: (.+)");

    public static void main(String[] args) throws IOException {
        String readme = Files.readString(Path.of("README.md"));
        everyCall(readme, Files.readString(Path.of("src/main/java/DrawnPaths.java")));
        // The words can be held beside the document only where it lies beside the project.
        if (Files.isReadable(DOCUMENT)) {
            everyPromise(readme, Files.readAllLines(DOCUMENT));
        }
        everyTest(readme);
        exampleStands(readme, Files.readAllLines(Path.of("src/test/java/ReadmeTest.java")));
        exampleHolds();
        CHECK.end();
    }

    private static void everyCall(String readme, String source) {
        Matcher call = FACE.matcher(source);
        int calls = 0;
        while (call.find()) {
            String face = call.group(1).replaceAll("\\s+", " ");
            CHECK.same("it tells " + face, true, readme.contains("**`" + face + "`**\n"));
            calls++;
        }
        CHECK.same("calls and the constructor", 19, calls);
    }

    private static void everyPromise(String readme, List<String> document) {
        int promises = 0;
        for (String line : document) {
            Matcher promise = PROMISE.matcher(line);
            if (promise.matches()) {
                String told = "**`" + promise.group(1) + "`**\n\n> " + promise.group(2) + "\n";
                CHECK.same("it has the words of " + promise.group(1), true, readme.contains(told));
                promises++;
            }
        }
        CHECK.same("promises", 19, promises);
    }

    private static void everyTest(String readme) throws IOException {
        try (var files = Files.list(Path.of("src/test/java"))) {
            for (Path file : (Iterable<Path>) files::iterator) {
                String name = file.getFileName().toString().replace(".java", "");
                if (name.endsWith("Test")) {
                    CHECK.same("it names " + name, true, readme.contains("`" + name + "`"));
                }
            }
        }
    }

    /** The lines between the two marks below, as they stand here. */
    private static void exampleStands(String readme, List<String> own) {
        List<String> example = new ArrayList<>();
        boolean inside = false;
        for (String line : own) {
            if (line.equals("        // The example ends.")) {
                inside = false;
            }
            if (inside && !line.trim().startsWith("CHECK")) {
                example.add(line.substring(8));
            }
            if (line.equals("        // The example begins.")) {
                inside = true;
            }
        }
        String whole = "```java\n" + String.join("\n", example) + "\n```\n";
        CHECK.same("it has lines", true, example.size() > 10);
        CHECK.same("the example is the one that is tried", true, readme.contains(whole));
    }

    private static void exampleHolds() {
        // The example begins.
        DrawnPaths paths = new DrawnPaths();
        for (char c : "i12+*n@".toCharArray()) {
            paths.type(c);                          // the text, of up to 12 signs,
        }
        int laid = paths.lay(0);                    // becomes row 0: 7 characters
        CHECK.same("lay", 7, laid);
        int given = paths.input(14L);               // one number for i
        CHECK.same("input", 1, given);
        paths.start();                              // a pointer on 0, 0, directed east
        int state = paths.step(4);                  // RUNNING: i 1 2 + are done
        CHECK.same("step", DrawnPaths.RUNNING, state);
        long top = paths.value(0, 0);               // 3, and 14 is below it
        CHECK.same("value", 3, top);
        CHECK.same("value below", 14, paths.value(0, 1));
        state = paths.fast(1000);                   // ENDED, by @
        CHECK.same("fast", DrawnPaths.ENDED, state);
        int size = paths.output();                  // "42 " goes on the page: 3 characters
        CHECK.same("output", 3, size);
        char first = paths.charAt(0);               // '4'
        CHECK.same("charAt", '4', first);
        int steps = paths.count(1);                 // 7, counted alike by step and fast
        CHECK.same("count", 7, steps);
        // The example ends.
        CHECK.same("the page", "42 ", Check.written(paths));
    }
}
