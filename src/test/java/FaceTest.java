import java.io.IOException;
import java.lang.reflect.Constructor;
import java.lang.reflect.Field;
import java.lang.reflect.Method;
import java.lang.reflect.Modifier;
import java.nio.charset.StandardCharsets;
import java.nio.file.Files;
import java.nio.file.Path;
import java.util.Arrays;
import java.util.List;
import java.util.Set;
import java.util.TreeSet;
import java.util.regex.Matcher;
import java.util.regex.Pattern;

/** The public face, and those rules of ../shared/LANGUAGE.md that can be read off the file. */
public final class FaceTest {
    private static final Path SOURCE = Path.of("src/main/java/JugglerStates.java");
    private static final List<String> FACE = List.of(
        "start(int,int)", "read()", "pass(int)", "drop(int,int)", "pick(int,int)", "of(int,int)",
        "thrown(int,int,int)", "count(int)", "firstDrop()", "comesRound()", "stateBehind(int,int)", "pattern(int)",
        "back(int)", "way(int,int,int)", "howMany(int,int)", "put(long)", "wipe()", "fault()", "undo()", "save(int)",
        "restore(int)");

    public static void main(String[] args) throws IOException {
        constants();
        methods();
        nestedClasses();
        source();
        Check.finish();
    }

    private static void constants() {
        Check.due("NO_SUCH", JugglerStates.NO_SUCH, -1);
        Check.due("BAD_VALUE", JugglerStates.BAD_VALUE, -2);
        Check.due("BAD_TEXT", JugglerStates.BAD_TEXT, -3);
        Check.due("TOO_MANY", JugglerStates.TOO_MANY, -4);
        Check.due("NOT_POSSIBLE", JugglerStates.NOT_POSSIBLE, -5);
        Check.due("NONE", JugglerStates.NONE, -6);
        int shown = 0;
        for (Field field : JugglerStates.class.getDeclaredFields()) {
            shown += Modifier.isPrivate(field.getModifiers()) ? 0 : 1;
        }
        Check.due("fields that are not private", shown, 6);
    }

    private static void methods() {
        Check.due("class is public final", JugglerStates.class.getModifiers(), Modifier.PUBLIC | Modifier.FINAL);
        Constructor<?>[] constructors = JugglerStates.class.getDeclaredConstructors();
        Check.due("constructors", constructors.length, 1);
        Check.holds("it is public", Modifier.isPublic(constructors[0].getModifiers()));
        Check.due("it takes nothing", constructors[0].getParameterCount(), 0);
        Set<String> shown = new TreeSet<>();
        for (Method method : JugglerStates.class.getDeclaredMethods()) {
            if (!Modifier.isPrivate(method.getModifiers())) {
                Check.due(method + " is public alone", method.getModifiers(), Modifier.PUBLIC);
                Check.holds(method + " returns an int", method.getReturnType() == int.class);
                shown.add(signature(method));
            }
        }
        Check.holds("the face is " + shown, shown.equals(new TreeSet<>(FACE)));
    }

    private static String signature(Method method) {
        String types = Arrays.toString(method.getParameterTypes());
        return method.getName() + "(" + types.substring(1, types.length() - 1).replace(" ", "") + ")";
    }

    private static void nestedClasses() {
        Class<?>[] nested = JugglerStates.class.getDeclaredClasses();
        Check.holds("twelve classes at most", nested.length < 12);
        for (Class<?> each : nested) {
            Check.holds(each + " is static", Modifier.isStatic(each.getModifiers()));
            Check.holds(each + " is private", Modifier.isPrivate(each.getModifiers()));
            Check.due(each + ": classes inside", each.getDeclaredClasses().length, 0);
            for (Method method : each.getDeclaredMethods()) {
                boolean borrowed = FACE.stream().anyMatch(known -> known.startsWith(method.getName() + "("));
                Check.holds(method + " bears no public name", !borrowed);
            }
            fieldsOf(each);
        }
        fieldsOf(JugglerStates.class);
        for (Method method : JugglerStates.class.getDeclaredMethods()) {
            Check.holds(method + ": seven parameters at most", method.getParameterCount() <= 7);
            if (Modifier.isPrivate(method.getModifiers())) {
                boolean borrowed = FACE.stream().anyMatch(known -> known.startsWith(method.getName() + "("));
                Check.holds(method + " bears no public name", !borrowed);
            }
        }
    }

    private static void fieldsOf(Class<?> each) {
        int own = 0;
        for (Field field : each.getDeclaredFields()) {
            if (Modifier.isStatic(field.getModifiers())) {
                Check.holds(field + " is final", Modifier.isFinal(field.getModifiers()));
            } else {
                own++;
            }
        }
        Check.holds(each + " has twenty fields at most", own <= 20);
    }

    private static void source() throws IOException {
        String text = Files.readString(SOURCE, StandardCharsets.US_ASCII);
        String code = text.replaceAll("(?s)/\\*.*?\\*/", "").replaceAll("//[^\n]*", "");
        String[] forbidden = {
            "throw", "throws", "try", "catch", "finally", "synchronized", "assert", "package", "protected", "native",
            "volatile", "transient", "var", "hashCode", "toString", "System\\.(?!arraycopy)\\w+", "Random", "Thread", "Object"
        };
        for (String word : forbidden) {
            Check.holds("no '" + word + "' in the code", !Pattern.compile("\\b" + word + "\\b").matcher(code).find());
        }
        for (String sign : new String[] {"->", "::", "@", "\""}) {
            Check.holds("no " + sign + " in the code", !code.contains(sign));
        }
        Set<String> imports = new TreeSet<>();
        Matcher matcher = Pattern.compile("import ([^;]+);").matcher(code);
        while (matcher.find()) {
            imports.add(matcher.group(1));
        }
        imports.removeAll(List.of("java.util.Arrays", "java.util.ArrayList", "java.util.List", "java.util.Iterator"));
        Check.holds("imports beside those of the rules: " + imports, imports.isEmpty());
    }
}
