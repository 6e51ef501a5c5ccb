import java.io.IOException;
import java.lang.reflect.Method;
import java.lang.reflect.Modifier;
import java.nio.file.Files;
import java.nio.file.Path;
import java.util.Set;
import java.util.TreeSet;
import java.util.regex.Matcher;
import java.util.regex.Pattern;

/** Makes the calls of README.md: the class and the model answer as it says, and no call of the face is left out. */
public final class ReadmeTest {
    private static final Pattern NEW_OBJECT = Pattern.compile("JugglerStates jugglers = new JugglerStates\\(\\);");
    private static final Pattern CALL =
        Pattern.compile("jugglers\\.(\\w+)\\(([^)]*)\\);\\s+// (-?\\d+|[A-Z_]+): .+");

    private JugglerStates asked;
    private Model model;
    private final Set<String> shown = new TreeSet<>();

    public static void main(String[] args) throws IOException, ReflectiveOperationException {
        new ReadmeTest().readAll();
        Check.finish();
    }

    private void readAll() throws IOException, ReflectiveOperationException {
        for (String line : Files.readAllLines(Path.of("README.md"))) {
            Matcher call = CALL.matcher(line);
            if (NEW_OBJECT.matcher(line).matches()) {
                asked = new JugglerStates();
                model = new Model();
            } else if (call.matches()) {
                make(line, call);
            } else {
                Check.holds("a line of README.md that is no call: " + line, !line.startsWith("jugglers."));
            }
        }
        for (Method method : JugglerStates.class.getDeclaredMethods()) {
            if (Modifier.isPublic(method.getModifiers())) {
                Check.holds("README.md shows " + method.getName(), shown.contains(method.getName()));
            }
        }
    }

    private void make(String line, Matcher call) throws ReflectiveOperationException {
        String name = call.group(1);
        String[] arguments = call.group(2).isEmpty() ? new String[0] : call.group(2).split(", ");
        int due = number(call.group(3));
        Check.due("README.md: " + line, answer(asked, name, arguments), due);
        Check.due("the model of README.md: " + line, answer(model, name, arguments), due);
        shown.add(name);
    }

    private static int number(String text) throws ReflectiveOperationException {
        boolean isName = Character.isUpperCase(text.charAt(0));
        return isName ? JugglerStates.class.getField(text).getInt(null) : Integer.parseInt(text);
    }

    private static int answer(Object object, String name, String[] arguments) throws ReflectiveOperationException {
        for (Method method : object.getClass().getDeclaredMethods()) {
            boolean isPrivate = Modifier.isPrivate(method.getModifiers());
            if (!isPrivate && method.getName().equals(name) && method.getParameterCount() == arguments.length) {
                Object[] values = new Object[arguments.length];
                for (int index = 0; index < values.length; index++) {
                    values[index] = value(arguments[index], method.getParameterTypes()[index]);
                }
                return (int) method.invoke(object, values);
            }
        }
        throw new NoSuchMethodException(name);
    }

    /** A number that ends in L is refused for an int, as the compiler would do. */
    private static Object value(String text, Class<?> type) {
        if (type == long.class) {
            return Long.decode(text.endsWith("L") ? text.substring(0, text.length() - 1) : text);
        }
        return Integer.decode(text);
    }
}
