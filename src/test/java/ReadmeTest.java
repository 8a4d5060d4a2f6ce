import java.lang.reflect.Method;
import java.lang.reflect.Modifier;
import java.nio.file.Files;
import java.nio.file.Path;
import java.util.HashMap;
import java.util.HashSet;
import java.util.Map;
import java.util.Set;
import java.util.regex.Matcher;
import java.util.regex.Pattern;

/** The example of README.md: each of its calls answers what stands behind it, and all calls of the face occur. */
public final class ReadmeTest {
    private static final Pattern MADE = Pattern.compile("AreaGoals sea = new AreaGoals\\((-?\\d+)\\);");
    private static final Pattern CALL = Pattern.compile("sea\\.(\\w+)\\(([^)]*)\\);\\s+// (\\S+)");

    private static final Map<String, Method> FACE = new HashMap<>();
    private static final Set<String> SHOWN = new HashSet<>();
    private static int wrong = 0;

    public static void main(String[] args) throws Exception {
        for (Method method : AreaGoals.class.getDeclaredMethods()) {
            if (Modifier.isPublic(method.getModifiers())) {
                FACE.put(method.getName(), method);
            }
        }
        String text = Files.readString(Path.of("README.md"));
        runExample(text);
        for (String name : FACE.keySet()) {
            if (!SHOWN.contains(name)) {
                fail("the example has no call of " + name);
            }
            if (!text.contains("`" + name + "(")) {
                fail("the tables do not name " + name);
            }
        }
        System.out.println(wrong == 0 ? "README.md says what is so" : wrong + " faults in README.md");
        if (wrong != 0) {
            System.exit(1);
        }
    }

    private static void runExample(String text) throws Exception {
        AreaGoals sea = null;
        boolean inside = false;
        for (String line : text.split("\n")) {
            if (line.startsWith("```")) {
                inside = line.equals("```java");
            } else if (inside && !line.isBlank() && !line.startsWith("//")) {
                Matcher made = MADE.matcher(line);
                Matcher call = CALL.matcher(line);
                if (made.matches()) {
                    sea = new AreaGoals(Long.parseLong(made.group(1)));
                } else if (sea != null && call.matches() && FACE.containsKey(call.group(1))) {
                    check(sea, line, call);
                } else {
                    fail("not a call of the face with its answer: " + line);
                }
            }
        }
    }

    private static void check(AreaGoals sea, String line, Matcher call) throws Exception {
        Method method = FACE.get(call.group(1));
        SHOWN.add(method.getName());
        Class<?>[] types = method.getParameterTypes();
        String[] told = call.group(2).isEmpty() ? new String[0] : call.group(2).split(", ");
        if (told.length != types.length) {
            fail("wrong number of arguments: " + line);
            return;
        }
        Object[] values = new Object[told.length];
        for (int i = 0; i < told.length; i++) {
            if (types[i] == int.class) {
                values[i] = Integer.parseInt(told[i]);
            } else {
                values[i] = Long.parseLong(told[i]);
            }
        }
        String answer = String.valueOf(method.invoke(sea, values));
        if (!answer.equals(call.group(3))) {
            fail(line + " answered " + answer);
        }
    }

    private static void fail(String what) {
        wrong++;
        System.out.println(what);
    }
}
