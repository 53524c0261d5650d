import java.io.IOException;
import java.lang.reflect.InvocationTargetException;
import java.lang.reflect.Method;
import java.lang.reflect.Modifier;
import java.nio.file.Files;
import java.nio.file.Path;
import java.util.Set;
import java.util.TreeSet;
import java.util.regex.Matcher;
import java.util.regex.Pattern;

/** Makes the calls of README.md's examples, so that what it says they answer is what they answer. */
public final class ReadmeTest {
    private static final String NEW_DESK = "ModalDesk desk = new ModalDesk();";
    private static final Pattern CALL = Pattern.compile("desk\\.(\\w+)\\(([^)]*)\\); *// (-?\\w+).*");

    private static final Checks c = new Checks();
    private static final Set<String> called = new TreeSet<>();
    private static ModalDesk desk = null;

    public static void main(String[] args) throws IOException, IllegalAccessException {
        boolean inExample = false;
        for (String line : Files.readAllLines(Path.of("README.md"))) {
            if (line.startsWith("```")) {
                inExample = line.equals("```java");
                desk = null;
            } else if (inExample && !line.isBlank()) {
                follow(line);
            }
        }
        c.due("calls that have an example", called.toString(), callsOfTheFace().toString());
        c.end("ReadmeTest");
    }

    private static void follow(String line) throws IllegalAccessException {
        if (line.equals(NEW_DESK)) {
            desk = new ModalDesk();
            return;
        }
        Matcher call = CALL.matcher(line);
        c.due("a call with its answer: " + line, desk != null && call.matches(), true);
        if (desk != null && call.matches()) {
            called.add(call.group(1));
            c.due(line, answer(call.group(1), call.group(2)), call.group(3));
        }
    }

    private static String answer(String name, String arguments) throws IllegalAccessException {
        String[] given = arguments.isEmpty() ? new String[0] : arguments.split(", ");
        for (Method m : ModalDesk.class.getMethods()) {
            if (m.getName().equals(name) && m.getParameterCount() == given.length) {
                return answer(m, given);
            }
        }
        return "no such call";
    }

    private static String answer(Method m, String[] given) throws IllegalAccessException {
        Object[] values = new Object[given.length];
        for (int i = 0; i < given.length; i++) {
            boolean number = m.getParameterTypes()[i] == int.class;
            values[i] = number ? (Object) Integer.decode(given[i]) : (Object) Boolean.valueOf(given[i]);
        }
        try {
            return String.valueOf(m.invoke(desk, values));
        } catch (InvocationTargetException e) {
            return e.getCause().getClass().getSimpleName();
        }
    }

    private static Set<String> callsOfTheFace() {
        Set<String> names = new TreeSet<>();
        for (Method m : ModalDesk.class.getDeclaredMethods()) {
            if (Modifier.isPublic(m.getModifiers())) {
                names.add(m.getName());
            }
        }
        return names;
    }
}
