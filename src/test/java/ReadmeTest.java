import java.lang.reflect.Method;
import java.nio.file.Files;
import java.nio.file.Path;
import java.util.List;
import java.util.regex.Matcher;
import java.util.regex.Pattern;

/** Makes the calls of README.md's example: the last one of a line answers what its comment begins with. */
public final class ReadmeTest {
    private static final Pattern CALL = Pattern.compile("x\\.(\\w+)\\(([-\\d, ]*)\\);");
    private static final Pattern ANSWER = Pattern.compile("// (-?\\d+|true|false)\\b");
    private static int wrong = 0;

    public static void main(String[] args) throws Exception {
        List<String> lines = Files.readAllLines(Path.of("README.md"));
        int from = lines.indexOf("```java") + 1;
        TimesBench x = new TimesBench();
        int calls = 0;
        for (int at = from; at > 0 && at < lines.size() && !lines.get(at).equals("```"); at++) {
            calls += callsOfLine(x, lines.get(at));
        }
        if (calls == 0) {
            wrong++;
            System.out.println("README.md has no example");
        }
        System.out.println("readme: " + calls + " calls, " + wrong + " wrong");
        if (wrong != 0) {
            System.exit(1);
        }
    }

    private static int callsOfLine(TimesBench x, String line) throws Exception {
        Matcher call = CALL.matcher(line);
        int calls = 0;
        Object got = null;
        while (call.find()) {
            got = answerOf(x, call.group(1), call.group(2));
            calls++;
        }
        Matcher answer = ANSWER.matcher(line);
        boolean told = answer.find();
        if (calls > 0 && !(told && answer.group(1).equals(String.valueOf(got)))) {
            wrong++;
            System.out.println(line + " answered " + got);
        }
        return calls;
    }

    private static Object answerOf(TimesBench x, String name, String told) throws Exception {
        String[] parts = told.isBlank() ? new String[0] : told.split(", ");
        Object[] numbers = new Object[parts.length];
        for (int n = 0; n < parts.length; n++) {
            numbers[n] = Integer.valueOf(parts[n]);
        }
        for (Method method : TimesBench.class.getMethods()) {
            if (method.getName().equals(name) && method.getParameterCount() == parts.length) {
                return method.invoke(x, numbers);
            }
        }
        return "no such call";
    }
}
