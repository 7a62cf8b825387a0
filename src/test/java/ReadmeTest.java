import java.io.File;
import java.lang.reflect.Method;
import java.lang.reflect.Modifier;
import java.nio.file.Files;
import java.nio.file.Path;
import java.util.Arrays;
import java.util.Map;
import java.util.TreeSet;
import java.util.regex.Matcher;
import java.util.regex.Pattern;

/** README.md: what it says that calls answer, one behind the other on one object; every call and test is named. */
public final class ReadmeTest {
    private static final Due due = new Due();
    private static final Map<String, Integer> NAMED = Map.of("BAD", -1, "NO", -2, "FULL", -3, "NONE", -4);
    private static final Pattern WRITTEN = Pattern.compile("for .*\"(.*)\"\\.toCharArray\\(\\)\\) x\\.write\\(c\\);");
    private static final Pattern CALLED =
        Pattern.compile("x\\.(\\w+)\\(([-0-9, ]*)\\); *// (-?\\d+|BAD|NO|FULL|NONE)\\b.*");

    public static void main(String[] args) throws Exception {
        String page = Files.readString(Path.of("README.md"));
        Matcher blocks = Pattern.compile("(?s)```java\n(.*?)```").matcher(page);
        DollsVote x = new DollsVote();
        TreeSet<String> called = new TreeSet<>();
        while (blocks.find()) {
            for (String line : blocks.group(1).split("\n")) {
                called.add(ask(x, line));
            }
        }
        for (Method method : DollsVote.class.getDeclaredMethods()) {
            if (Modifier.isPublic(method.getModifiers())) {
                due.so("README.md shows " + method.getName(), called.contains(method.getName()));
            }
        }
        for (String file : new File("src/test/java").list()) {
            if (file.endsWith("Test.java")) {
                due.so("README.md tells of " + file, page.contains("| " + file.replace(".java", "") + " |"));
            }
        }
        due.end();
    }

    /** Asks what a line says; the name of the call. */
    private static String ask(DollsVote x, String line) throws ReflectiveOperationException {
        Matcher written = WRITTEN.matcher(line);
        Matcher call = CALLED.matcher(line);
        if (written.matches()) {
            Due.type(x, written.group(1));
            return "write";
        }
        if (call.matches()) {
            String numbers = call.group(2).trim();
            int[] all = numbers.isEmpty() ? new int[0] : Arrays.stream(numbers.split(", *")).mapToInt(Integer::parseInt).toArray();
            String answer = call.group(3);
            int said = NAMED.containsKey(answer) ? NAMED.get(answer) : Integer.parseInt(answer);
            due.is(line, said, Due.ask(x, call.group(1), all));
            return call.group(1);
        }
        due.same("README.md's line", "DollsVote x = new DollsVote();", line);
        return "";
    }
}
