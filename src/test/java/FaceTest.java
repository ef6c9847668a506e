import java.io.IOException;
import java.lang.reflect.Constructor;
import java.lang.reflect.Field;
import java.lang.reflect.Method;
import java.lang.reflect.Modifier;
import java.nio.charset.StandardCharsets;
import java.nio.file.Files;
import java.nio.file.Paths;
import java.util.Set;
import java.util.TreeSet;
import java.util.regex.Matcher;
import java.util.regex.Pattern;

/** The public face, and those rules of LANGUAGE.md that can be seen from outside or from the text. */
public final class FaceTest {
    private static final String[] FACE = {
        "int path(int,int,int)", "int weather(int)", "int days(int)", "int sign(int,int,int,int,int,boolean)",
        "int turn(int,int)", "int at(int,int)", "int set(int,int)", "int seen(int,int)", "int walk(int,int)",
        "int walked(int,int)", "int note(int)", "int forget()", "int ways(int)", "int only(int,int)", "int route(int)",
        "int unroute()", "int needed(int)", "int trail(int,boolean)", "int add(int,int)", "int breaks(int)",
        "int branch(int)", "int unbranch()", "int worst(int)", "int split(int,int,int)", "int club(int,int)",
        "int colour(int,int,int)", "int whose(int,int,int,int)", "int count(int)"};
    private static final String[] CONSTANTS = {"NONE", "UNKNOWN", "OUTSIDE", "NOT", "FULL"};
    private static final String SOURCE = "src/main/java/TwigsAndStones.java";

    public static void main(String[] args) throws IOException, IllegalAccessException {
        theClass();
        methods();
        constants();
        classesInside();
        text(new String(Files.readAllBytes(Paths.get(SOURCE)), StandardCharsets.ISO_8859_1));
        Due.end();
    }

    private static void theClass() {
        Class<?> c = TwigsAndStones.class;
        Due.holds("public", Modifier.isPublic(c.getModifiers()));
        Due.holds("final", Modifier.isFinal(c.getModifiers()));
        Due.holds("no package", c.getPackageName().isEmpty());
        Constructor<?>[] made = c.getDeclaredConstructors();
        Due.is("constructors", made.length, 1);
        Due.holds("its constructor is public", Modifier.isPublic(made[0].getModifiers()));
        Due.is("its arguments", made[0].getParameterCount(), 0);
    }

    private static String told(Method m) {
        StringBuilder s = new StringBuilder(m.getReturnType().getName()).append(' ').append(m.getName()).append('(');
        for (Class<?> type : m.getParameterTypes()) {
            s.append(s.charAt(s.length() - 1) == '(' ? "" : ",").append(type.getName());
        }
        return s.append(')').toString();
    }

    private static void methods() {
        Set<String> due = new TreeSet<>();
        Set<String> names = new TreeSet<>();
        for (String method : FACE) {
            due.add(method);
            names.add(method.substring(4, method.indexOf('(')));
        }
        Set<String> found = new TreeSet<>();
        for (Method m : TwigsAndStones.class.getDeclaredMethods()) {
            if (Modifier.isPrivate(m.getModifiers())) {
                Due.holds(m.getName() + " is no name of a public method", !names.contains(m.getName()));
            } else {
                found.add(told(m));
                Due.holds(m.getName() + " is public", Modifier.isPublic(m.getModifiers()));
                Due.holds(m.getName() + " is not static", !Modifier.isStatic(m.getModifiers()));
            }
        }
        Due.holds("the methods are " + due + ", found are " + found, due.equals(found));
        for (Class<?> inside : TwigsAndStones.class.getDeclaredClasses()) {
            for (Method m : inside.getDeclaredMethods()) {
                Due.holds(m.getName() + " is no name of a public method", !names.contains(m.getName()));
            }
        }
    }

    private static void constants() throws IllegalAccessException {
        Set<String> due = new TreeSet<>(Set.of(CONSTANTS));
        Set<String> found = new TreeSet<>();
        for (Field f : TwigsAndStones.class.getDeclaredFields()) {
            int how = f.getModifiers();
            if (!Modifier.isPrivate(how)) {
                found.add(f.getName());
                Due.holds(f.getName() + " is a constant int", Modifier.isPublic(how) && Modifier.isStatic(how)
                        && Modifier.isFinal(how) && f.getType() == int.class);
            }
            Due.holds(f.getName() + " is final if it is static", !Modifier.isStatic(how) || Modifier.isFinal(how));
        }
        Due.holds("the constants are " + due + ", found are " + found, due.equals(found));
        for (int i = 0; i < CONSTANTS.length; i++) {
            try {
                Due.is(CONSTANTS[i], TwigsAndStones.class.getField(CONSTANTS[i]).getInt(null), -1 - i);
            } catch (NoSuchFieldException e) {
                Due.holds(CONSTANTS[i] + " is there", false);
            }
        }
    }

    private static void classesInside() {
        Class<?>[] inside = TwigsAndStones.class.getDeclaredClasses();
        Due.holds("not more than twelve classes", inside.length < 12);
        for (Class<?> c : inside) {
            int how = c.getModifiers();
            Due.holds(c.getName() + " is static", Modifier.isStatic(how));
            Due.holds(c.getName() + " is not public", !Modifier.isPublic(how) && !Modifier.isProtected(how));
            Due.is("classes in " + c.getName(), c.getDeclaredClasses().length, 0);
            int fields = 0;
            for (Field f : c.getDeclaredFields()) {
                fields += Modifier.isStatic(f.getModifiers()) ? 0 : 1;
                Due.holds(f + " is final if it is static", !Modifier.isStatic(f.getModifiers())
                        || Modifier.isFinal(f.getModifiers()));
            }
            Due.holds(c.getName() + " has not more than twenty fields", fields <= 20);
            for (Method m : c.getDeclaredMethods()) {
                Due.holds(m + " has not more than seven parameters", m.getParameterCount() <= 7);
            }
        }
    }

    private static void text(String whole) {
        String code = whole.replaceAll("(?s)/\\*.*?\\*/", "").replaceAll("//[^\n]*", "");
        String[] barred = {"\\bthrow\\b", "\\btry\\b", "\\bcatch\\b", "\\bsynchronized\\b", "\\bassert\\b", "\\bimport\\b",
            "\\bpackage\\b", "->", "::", "\\bSystem\\b", "\\bequals\\b", "\\bhashCode\\b", "\\btoString\\b", "\\bnative\\b",
            "\\bThread\\b", "\\bRandom\\b", "\\brandom\\b", "Exact\\b", "\\bstatic\\s*\\{", "/[^/*]", "%"};
        for (String word : barred) {
            Matcher m = Pattern.compile(word).matcher(code);
            Due.holds("no " + word + " in the program", !m.find());
        }
        for (int i = 0; i < whole.length(); i++) {
            if (whole.charAt(i) > 127) {
                Due.holds("the sign at " + i + " is not above 127", false);
            }
        }
        // Every index stands behind its test, in Row.
        Matcher index = Pattern.compile("\\w\\[[^\\]]").matcher(code.replace("new int[", ""));
        int indices = 0;
        while (index.find()) {
            indices++;
        }
        Due.is("places where an array's index is used", indices, 3);
    }
}
