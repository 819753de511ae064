import java.lang.reflect.Method;
import java.lang.reflect.Modifier;
import java.nio.file.Files;
import java.nio.file.Path;
import java.util.ArrayList;
import java.util.List;
import java.util.regex.Matcher;
import java.util.regex.Pattern;

/** README.md says how to use the class: what it shows must be so. */
final class ReadmeTest {
    private static final Pattern CALL = Pattern.compile("x\\.(\\w+)\\((.*)\\);\\s*// (-?\\d+).*");

    private static List<Method> face() {
        List<Method> face = new ArrayList<>();
        for (Method method : TurnQueues.class.getDeclaredMethods()) {
            if (Modifier.isPublic(method.getModifiers())) {
                face.add(method);
            }
        }
        return face;
    }

    private static long answer(TurnQueues x, String name, String arguments) throws Exception {
        for (Method method : face()) {
            if (method.getName().equals(name)) {
                String[] words = arguments.isEmpty() ? new String[0] : arguments.split(", ");
                Object[] values = new Object[words.length];
                for (int i = 0; i < words.length; i++) {
                    values[i] = Integer.decode(words[i]);
                }
                return (Integer) method.invoke(x, values);
            }
        }
        throw new IllegalStateException("no method " + name);
    }

    private static void example(Check check, String readme) throws Exception {
        int start = readme.indexOf("```java\n");
        String[] lines = readme.substring(start, readme.indexOf("```\n", start)).split("\n");
        TurnQueues x = new TurnQueues();
        int calls = 0;
        for (String line : lines) {
            Matcher call = CALL.matcher(line);
            if (call.matches()) {
                calls++;
                check.same(line, answer(x, call.group(1), call.group(2)), Long.parseLong(call.group(3)));
            } else {
                check.truth("a call without its answer: " + line, !line.startsWith("x."));
            }
        }
        check.truth("no calls are shown", calls > 0);
    }

    public static void main(String[] args) throws Exception {
        String readme = Files.readString(Path.of("README.md"));
        Check check = new Check();
        check.test("README.md: the example answers what stands behind it", c -> example(c, readme));
        check.test("README.md: every method stands in the table", c -> {
            for (Method method : face()) {
                c.truth(method.getName() + " is not there", readme.contains("`" + method.getName() + "`"));
            }
        });
        check.close();
    }
}
