import java.io.IOException;
import java.lang.reflect.InvocationTargetException;
import java.lang.reflect.Method;
import java.lang.reflect.Modifier;
import java.nio.charset.StandardCharsets;
import java.nio.file.Files;
import java.nio.file.Paths;
import java.util.List;
import java.util.Set;
import java.util.TreeSet;
import java.util.regex.Matcher;
import java.util.regex.Pattern;

/** README.md: its lines of Java, called in their order, answer as it says, and leave out no public method. */
public final class ReadmeTest {
    private static final String BEGIN = "TwigsAndStones x = new TwigsAndStones();";
    private static final Pattern CALL = Pattern.compile("x\\.(\\w+)\\((.*?)\\); +// (-?\\d+|[A-Z]+)(:.*)?");

    private static final Set<String> called = new TreeSet<>();
    private static TwigsAndStones x = null;

    public static void main(String[] args) throws IOException, ReflectiveOperationException {
        List<String> lines = Files.readAllLines(Paths.get("README.md"), StandardCharsets.UTF_8);
        boolean inJava = false;
        for (String line : lines) {
            if (line.startsWith("```")) {
                inJava = line.equals("```java");
            } else if (inJava) {
                lineOfJava(line);
            }
        }
        for (Method m : TwigsAndStones.class.getDeclaredMethods()) {
            boolean isPublic = Modifier.isPublic(m.getModifiers());
            Due.holds(m.getName() + " is called in README.md", !isPublic || called.contains(m.getName()));
        }
        Due.end();
    }

    private static void lineOfJava(String line) throws ReflectiveOperationException {
        if (line.equals(BEGIN)) {
            x = new TwigsAndStones();
            return;
        }
        Matcher m = CALL.matcher(line);
        boolean isCall = m.matches() && x != null;
        Due.holds("a call with its answer: " + line, isCall);
        if (isCall) {
            called.add(m.group(1));
            Due.is(line, answerOf(m.group(1), m.group(2)), numberOf(m.group(3)));
        }
    }

    private static int answerOf(String name, String told) throws ReflectiveOperationException {
        String[] texts = told.isEmpty() ? new String[0] : told.split(", ");
        for (Method m : TwigsAndStones.class.getMethods()) {
            if (m.getName().equals(name) && m.getParameterCount() == texts.length && m.getReturnType() == int.class) {
                return answerOf(m, texts);
            }
        }
        throw new NoSuchMethodException(name + " of " + texts.length + " arguments");
    }

    private static int answerOf(Method m, String[] texts) throws IllegalAccessException {
        Object[] arguments = new Object[texts.length];
        for (int i = 0; i < texts.length; i++) {
            boolean isBoolean = m.getParameterTypes()[i] == boolean.class;
            arguments[i] = isBoolean ? (Object) Boolean.valueOf(texts[i]) : (Object) literal(texts[i]);
        }
        try {
            return (Integer) m.invoke(x, arguments);
        } catch (InvocationTargetException e) {
            throw new AssertionError(m.getName() + " threw " + e.getCause(), e);
        }
    }

    private static int literal(String text) {
        return text.startsWith("0b") ? Integer.parseInt(text.substring(2), 2) : Integer.parseInt(text);
    }

    /** A number as such, or a constant of the class by its name. */
    private static int numberOf(String text) throws ReflectiveOperationException {
        boolean isName = Character.isLetter(text.charAt(0));
        return isName ? TwigsAndStones.class.getField(text).getInt(null) : Integer.parseInt(text);
    }
}
