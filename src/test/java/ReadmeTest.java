import java.io.IOException;
import java.lang.reflect.Method;
import java.lang.reflect.Modifier;
import java.nio.file.Files;
import java.nio.file.Path;
import java.util.Arrays;
import java.util.stream.Collectors;

/** README.md: it has a line for each method of the public face, and its example answers what it says. */
public final class ReadmeTest {
    private static final Check CHECK = new Check("ReadmeTest");

    public static void main(String[] args) throws IOException {
        String readme = Files.readString(Path.of("README.md"));
        namesEachMethod(readme);
        namesEachTest(readme);
        example(readme);
        CHECK.finish();
    }

    private static void namesEachMethod(String readme) {
        CHECK.due("a line for the constructor", readme.contains("\n| `TriggerBase()` |"), true);
        for (Method method : TriggerBase.class.getDeclaredMethods()) {
            if (Modifier.isPublic(method.getModifiers())) {
                boolean isNamed = readme.lines().anyMatch(line -> isLineOf(method, line));
                CHECK.due("a line for " + method.getName(), isNamed, true);
            }
        }
    }

    /** The names of parameters are not in the class file: their types and how many they are is what can be compared. */
    private static boolean isLineOf(Method method, String line) {
        String parameters = Arrays.stream(method.getParameterTypes())
                .map(type -> type + " \\w+").collect(Collectors.joining(", "));
        return line.matches("\\| `" + method.getReturnType() + " " + method.getName() + "\\(" + parameters + "\\)` \\|.*");
    }

    private static void namesEachTest(String readme) throws IOException {
        try (var files = Files.list(Path.of("src/test/java"))) {
            for (Path file : files.toList()) {
                String name = file.getFileName().toString().replace(".java", "");
                CHECK.due("README.md names " + name, readme.contains("`" + name + "`"), true);
            }
        }
    }

    private static void example(String readme) {
        TriggerBase base = new TriggerBase();
        says(readme, "base.begin();", "0", base.begin());
        CHECK.due("the words", readme.contains("int[] words = {12, 0, 0, 7, 0, 9, 18, 1, 26};"), true);
        for (int word : new int[] {12, 0, 0, 7, 0, 9, 18, 1, 26}) {
            CHECK.due("emit", base.emit(word), true);
        }
        says(readme, "base.end();", "0", base.end());
        says(readme, "base.call(0, 5, 100);", "0", base.call(0, 5, 100));
        says(readme, "base.value();", "0", base.value());
        says(readme, "base.rows(1);", "1", base.rows(1));
        says(readme, "base.cell(1, 0, 0);", "5", base.cell(1, 0, 0));
        says(readme, "base.count(0);", "5", base.count(0));
        says(readme, "base.bind(1, 0, 0);", "0", base.bind(1, 0, 0));
        says(readme, "base.call(0, 6, 100);", "4", base.call(0, 6, 100));
        says(readme, "base.rows(1);", "1", base.rows(1));
        says(readme, "base.unbind(1, 0);", "true", base.unbind(1, 0));
    }

    private static void says(String readme, String call, String answer, Object got) {
        boolean isSaid = readme.lines().anyMatch(line -> line.startsWith(call) && answerIn(line).equals(answer));
        CHECK.due("README.md says that " + call + " answers " + answer, isSaid, true);
        CHECK.due(call + " answers what README.md says", answer.equals(String.valueOf(got)), true);
    }

    private static String answerIn(String line) {
        return line.replaceFirst(".*// ", "").replaceFirst(":.*", "");
    }
}
