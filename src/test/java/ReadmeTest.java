import java.lang.reflect.Method;
import java.nio.file.Files;
import java.nio.file.Path;
import java.util.Arrays;
import java.util.HashMap;
import java.util.List;
import java.util.Map;
import java.util.regex.Matcher;
import java.util.regex.Pattern;

/** README.md's examples answer what stands behind them, and it names every call and every finding. */
public final class ReadmeTest {
    private static final String README = "README.md";
    private static final List<String> FINDINGS = List.of("BEYOND", "FULL", "KIND", "NONE", "STATE", "MISSING", "SIZE");
    private static final Pattern CALL = Pattern.compile("x\\.(\\w+)\\((.*)\\); +// (-?\\d+)(: .*)?");

    public static void main(String[] args) throws Exception {
        String readme = Files.readString(Path.of(README));
        Map<String, Method> methods = new HashMap<>();
        for (Method m : FollowedHours.class.getMethods()) {
            if (m.getDeclaringClass() == FollowedHours.class) {
                methods.put(m.getName(), m);
                Check.due("README names " + m.getName(), readme.contains("`" + m.getName() + "`") ? 1 : 0, 1);
            }
        }
        for (int i = 0; i < FINDINGS.size(); i++) {
            String row = "| " + FINDINGS.get(i) + " | " + (Check.BEYOND - i) + " | " + i + " |";
            Check.due("README has the row " + row, readme.contains(row) ? 1 : 0, 1);
        }
        Matcher block = Pattern.compile("(?s)```java\n(.*?)```").matcher(readme);
        while (block.find()) {
            example(methods, block.group(1).split("\n"));
        }
        Check.end();
    }

    private static void example(Map<String, Method> methods, String[] lines) throws Exception {
        Check.due("an example begins with a new object", lines[0].equals("FollowedHours x = new FollowedHours();") ? 1 : 0, 1);
        FollowedHours x = new FollowedHours();
        for (int i = 1; i < lines.length; i++) {
            Matcher call = CALL.matcher(lines[i]);
            boolean isCall = call.matches();
            Check.due("a call with its answer: " + lines[i], isCall ? 1 : 0, 1);
            if (isCall) {
                String numbers = call.group(2);
                Object[] given = numbers.isEmpty() ? new Object[0]
                    : Arrays.stream(numbers.split(", ")).map(Integer::decode).toArray();
                long got = ((Number) methods.get(call.group(1)).invoke(x, given)).longValue();
                Check.due("README: " + lines[i], got, Long.parseLong(call.group(3)));
            }
        }
    }
}
