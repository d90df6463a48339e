import java.lang.reflect.Constructor;
import java.lang.reflect.Field;
import java.lang.reflect.Method;
import java.lang.reflect.Modifier;
import java.nio.file.Files;
import java.nio.file.Path;
import java.util.ArrayList;
import java.util.Arrays;
import java.util.HashMap;
import java.util.List;
import java.util.Map;
import java.util.TreeSet;
import java.util.regex.Matcher;
import java.util.regex.Pattern;

/** The public face, and those rules of LANGUAGE.md that can be read off the class or its text. */
public final class FaceTest {
    private static final String[] FACE = {
        "int write(int)", "int wipe()", "int fault()", "int river()", "int about(int)", "int sound(int,int)",
        "int row(int)", "int hush(int)", "int hammer(int)", "int change(int,int)", "int hour()", "int undo()",
        "int heard(int,int)", "int sure(int)", "int where(int,int)", "int when(int,int)", "int spared(int)",
        "int worth(int,int,boolean)", "int hammers(int,int,int)", "int bestHours(int,int)",
        "int grounded(int,int,int,int,int)", "int see(int,int,int,boolean)", "int unsee()", "int weather(int)",
        "int rivals(int,int)", "int chance(int,int,int,boolean)", "long seed(long)", "int days(int)",
        "int keep(int)", "int again(int)"
    };

    private static final String[] FORBIDDEN = {
        "throw", "throws", "try", "catch", "synchronized", "assert", "import", "package", "native", "volatile",
        "Exact", "->", "::", "System.out", "Object", "random", "protected"
    };

    public static void main(String[] args) throws Exception {
        Due due = new Due();
        face(due);
        constants(due);
        inside(due);
        text(due);
        methods(due);
        due.end();
    }

    private static void face(Due due) {
        TreeSet<String> methods = new TreeSet<>();
        TreeSet<String> names = new TreeSet<>();
        for (Method m : EarFerry.class.getDeclaredMethods()) {
            if (!Modifier.isPrivate(m.getModifiers())) {
                due.holds(m.getName() + " is public", Modifier.isPublic(m.getModifiers()));
                due.holds(m.getName() + " is of an object", !Modifier.isStatic(m.getModifiers()));
                methods.add(told(m));
                names.add(m.getName());
            }
        }
        due.holds("the methods are the document's: " + methods, methods.equals(new TreeSet<>(Arrays.asList(FACE))));
        for (Method m : EarFerry.class.getDeclaredMethods()) {
            if (Modifier.isPrivate(m.getModifiers())) {
                due.holds("no private method bears a public one's name: " + m.getName(), !names.contains(m.getName()));
            }
            due.holds(m.getName() + " takes at most seven", m.getParameterCount() <= 7);
        }
        due.holds("it is final and public", Modifier.isFinal(EarFerry.class.getModifiers())
            && Modifier.isPublic(EarFerry.class.getModifiers()));
        Constructor<?>[] made = EarFerry.class.getDeclaredConstructors();
        due.is("constructors", made.length, 1);
        due.is("what the constructor takes", made[0].getParameterCount(), 0);
        due.holds("the constructor is public", Modifier.isPublic(made[0].getModifiers()));
    }

    private static String told(Method m) {
        List<String> takes = new ArrayList<>();
        for (Class<?> c : m.getParameterTypes()) {
            takes.add(c.getName());
        }
        return m.getReturnType().getName() + " " + m.getName() + "(" + String.join(",", takes) + ")";
    }

    private static void constants(Due due) {
        due.is("UNKNOWN", EarFerry.UNKNOWN, -1);
        due.is("BAD", EarFerry.BAD, -2);
        due.is("LATE", EarFerry.LATE, -3);
        due.is("FULL", EarFerry.FULL, -4);
        due.is("NONE", EarFerry.NONE, -9);
        int open = 0;
        int own = 0;
        for (Field f : EarFerry.class.getDeclaredFields()) {
            open += Modifier.isPrivate(f.getModifiers()) ? 0 : 1;
            own += Modifier.isStatic(f.getModifiers()) ? 0 : 1;
            due.holds(f.getName() + ": static fields are final",
                !Modifier.isStatic(f.getModifiers()) || Modifier.isFinal(f.getModifiers()));
        }
        due.is("fields that are not private", open, 5);
        due.holds("some twenty fields at most", own <= 20);
    }

    private static void inside(Due due) {
        Class<?>[] classes = EarFerry.class.getDeclaredClasses();
        due.holds("some twelve classes at most", classes.length < 12);
        for (Class<?> c : classes) {
            due.holds(c.getName() + " is static", Modifier.isStatic(c.getModifiers()));
            due.holds(c.getName() + " is not public", !Modifier.isPublic(c.getModifiers()));
        }
    }

    private static String code() throws Exception {
        String source = Files.readString(Path.of("src/main/java/EarFerry.java"));
        return source.replaceAll("(?s)/\\*.*?\\*/", " ").replaceAll("//[^\\n]*", " ");
    }

    private static void text(Due due) throws Exception {
        String code = code();
        for (String word : FORBIDDEN) {
            String bare = Character.isLetter(word.charAt(0)) ? "\\b" + word + "\\b" : Pattern.quote(word);
            due.holds("not in the class: " + word, !Pattern.compile(bare).matcher(code).find());
        }
        for (String line : code.split("\\n")) {
            // The room is small: rows are made with the object, none by a call.
            due.holds("made with the object: " + line, !line.contains("new ") || line.contains(" final "));
        }
        Matcher calls = Pattern.compile("\\b(Math|Integer|Long|System|Arrays)\\.(\\w+)").matcher(code);
        while (calls.find()) {
            due.holds("not in the class: " + calls.group(),
                List.of("abs", "max", "min", "bitCount").contains(calls.group(2)));
        }
    }

    /** Methods are short, and calls go at most eight deep, the library's among them; none calls itself. */
    private static void methods(Due due) throws Exception {
        Map<String, String> bodies = new HashMap<>();
        Matcher each = Pattern.compile("(?ms)^( {4}| {8})(?:[a-z]+ )*(\\w+)\\([^()]*\\) \\{$(.*?)^\\1\\}$").matcher(code());
        while (each.find()) {
            bodies.merge(each.group(2), each.group(3), String::concat);
            due.holds(each.group(2) + " has some sixty lines at most", each.group(3).lines().count() <= 60);
        }
        for (Method m : EarFerry.class.getDeclaredMethods()) {
            due.holds("found in the text: " + m.getName(), bodies.containsKey(m.getName()));
            due.holds("eight calls deep at most: " + m.getName(), depth(m.getName(), bodies, 0) <= 8);
        }
    }

    private static int depth(String name, Map<String, String> bodies, int above) {
        if (above > 20 || !bodies.containsKey(name)) {
            return above + 1;
        }
        int deepest = above + 1;
        Matcher call = Pattern.compile("(\\w+)\\(").matcher(bodies.get(name));
        while (call.find()) {
            deepest = Math.max(deepest, depth(call.group(1), bodies, above + 1));
        }
        return deepest;
    }
}
