import java.lang.reflect.Method;
import java.lang.reflect.Modifier;
import java.nio.file.Files;
import java.nio.file.Path;
import java.util.regex.Matcher;
import java.util.regex.Pattern;

/** README.md's example answers what stands beside its calls, and each call of the face is told there. */
public final class ReadmeTest {
    private static final Pattern CALL = Pattern.compile("x\\.(\\w+)\\(([^)]*)\\);\\s*// (-?\\d+)\\b.*");
    private static final Pattern WRITTEN = Pattern.compile("for \\(char letter : \"(\\w+)\"\\.toCharArray\\(\\)\\) x\\.write\\(letter\\);");

    public static void main(String[] args) throws Exception {
        Due due = new Due();
        String readme = Files.readString(Path.of("README.md"));
        example(due, readme);
        calls(due, readme);
        due.end();
    }

    private static void example(Due due, String readme) throws Exception {
        Matcher block = Pattern.compile("(?s)```java\\n(.*?)```").matcher(readme);
        due.holds("there is an example", block.find());
        EarFerry x = null;
        for (String line : block.group(1).split("\\n")) {
            Matcher call = CALL.matcher(line);
            Matcher written = WRITTEN.matcher(line);
            if (line.equals("EarFerry x = new EarFerry();")) {
                x = new EarFerry();
            } else if (written.matches()) {
                Due.text(x, written.group(1));
            } else if (call.matches()) {
                due.is(line, answer(x, call.group(1), call.group(2)), Long.parseLong(call.group(3)));
            } else {
                due.holds("a line of the example can be tried: " + line, false);
            }
        }
    }

    private static long answer(EarFerry x, String name, String told) throws Exception {
        String[] values = told.isEmpty() ? new String[0] : told.split(", ");
        Method method = named(name);
        Class<?>[] types = method.getParameterTypes();
        if (types.length != values.length) {
            throw new IllegalArgumentException(name + " with " + told);
        }
        Object[] taken = new Object[values.length];
        for (int i = 0; i < values.length; i++) {
            if (types[i] == boolean.class) {
                taken[i] = Boolean.valueOf(values[i]);
            } else if (types[i] == long.class) {
                taken[i] = Long.valueOf(values[i]);
            } else {
                taken[i] = Integer.valueOf(values[i]);
            }
        }
        return ((Number) method.invoke(x, taken)).longValue();
    }

    private static Method named(String name) {
        for (Method m : EarFerry.class.getDeclaredMethods()) {
            if (Modifier.isPublic(m.getModifiers()) && m.getName().equals(name)) {
                return m;
            }
        }
        throw new IllegalArgumentException("no call " + name);
    }

    private static void calls(Due due, String readme) {
        for (Method m : EarFerry.class.getDeclaredMethods()) {
            if (Modifier.isPublic(m.getModifiers())) {
                Matcher told = Pattern.compile("`" + m.getName() + "\\(([^)]*)\\)`").matcher(readme);
                boolean isTold = told.find();
                due.holds("README.md tells " + m.getName(), isTold);
                int takes = !isTold || told.group(1).isEmpty() ? 0 : told.group(1).split(", ").length;
                due.is("what README.md says " + m.getName() + " takes", takes, m.getParameterCount());
            }
        }
    }
}
