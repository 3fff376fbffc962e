import java.io.IOException;
import java.lang.reflect.Method;
import java.lang.reflect.Modifier;
import java.nio.file.Files;
import java.nio.file.Path;
import java.util.Set;
import java.util.TreeSet;
import java.util.regex.Matcher;
import java.util.regex.Pattern;

/** The example of README.md, row by row: each call answers what the comment behind it begins with. */
public final class ReadmeTest {
    private static final Pattern TAPE = Pattern.compile("for \\(char letter : \"([^\"]*)\".*");
    private static final Pattern CALL = Pattern.compile("x\\.(\\w+)\\(([^)]*)\\);\\s+// (-?\\d+): .*");
    private static final Set<String> NO_CALL = Set.of("LoserPicks x = new LoserPicks();", "x.feed(letter);", "}", "");

    private static int calls = 0;
    private static int wrong = 0;

    private static void fail(String what) {
        wrong++;
        System.out.println("README.md: " + what);
    }

    private static Method methodOf(String name) {
        for (Method method : LoserPicks.class.getDeclaredMethods()) {
            if (method.getName().equals(name) && Modifier.isPublic(method.getModifiers())) {
                return method;
            }
        }
        return null;
    }

    private static Set<String> face() {
        Set<String> names = new TreeSet<>();
        for (Method method : LoserPicks.class.getDeclaredMethods()) {
            if (Modifier.isPublic(method.getModifiers())) {
                names.add(method.getName());
            }
        }
        return names;
    }

    private static long answer(LoserPicks x, Method method, String told) throws ReflectiveOperationException {
        Class<?>[] types = method.getParameterTypes();
        String[] numbers = told.isEmpty() ? new String[0] : told.split(", ");
        Object[] arguments = new Object[numbers.length];
        for (int k = 0; k < numbers.length; k++) {
            if (k < types.length && types[k] == long.class) {
                arguments[k] = Long.valueOf(numbers[k]);
            } else {
                arguments[k] = Integer.valueOf(numbers[k]);
            }
        }
        return ((Number) method.invoke(x, arguments)).longValue();
    }

    private static void follow(LoserPicks x, String row, Set<String> shown) throws ReflectiveOperationException {
        Matcher tape = TAPE.matcher(row);
        Matcher call = CALL.matcher(row);
        if (tape.matches()) {
            for (char letter : tape.group(1).toCharArray()) {
                x.feed(letter);
            }
            shown.add("feed");
        } else if (call.matches() && methodOf(call.group(1)) != null) {
            calls++;
            shown.add(call.group(1));
            long got = answer(x, methodOf(call.group(1)), call.group(2));
            if (got != Long.parseLong(call.group(3))) {
                fail(row + " answered " + got);
            }
        } else if (!NO_CALL.contains(row)) {
            fail("a row that cannot be followed: " + row);
        }
    }

    public static void main(String[] args) throws IOException, ReflectiveOperationException {
        String text = Files.readString(Path.of("README.md"));
        int start = text.indexOf("```java\n");
        int end = text.indexOf("\n```\n", start + 1);
        if (start < 0 || end < 0) {
            fail("there is no example");
        } else {
            LoserPicks x = new LoserPicks();
            Set<String> shown = new TreeSet<>();
            for (String row : text.substring(start + "```java\n".length(), end).split("\n")) {
                follow(x, row.trim(), shown);
            }
            if (!shown.equals(face())) {
                fail("the example shows only " + shown);
            }
        }
        if (!text.contains(".ci/run")) {
            fail("it does not say how to run the tests");
        }
        System.out.println(wrong == 0 ? "README.md: all " + calls + " rows are true" : wrong + " rows are wrong");
        if (wrong != 0) {
            System.exit(1);
        }
    }
}
