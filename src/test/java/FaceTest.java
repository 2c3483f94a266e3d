import java.io.IOException;
import java.lang.reflect.Constructor;
import java.lang.reflect.Field;
import java.lang.reflect.Method;
import java.lang.reflect.Modifier;
import java.nio.file.Files;
import java.nio.file.Path;
import java.util.HashSet;
import java.util.Set;
import java.util.regex.Matcher;
import java.util.regex.Pattern;

/** The document's face, and those rules of LANGUAGE.md that can be seen from outside. */
public final class FaceTest {
    private static final String SOURCE = "src/main/java/LoomShed.java";
    private static final String[] NAMES = {
        "looms 1", "end 1", "piece 4", "ways 2", "bar 3", "drop 1", "told 2", "undo 0", "count 1",
        "moment 1", "most 0", "fits 0", "lies 2", "on 2", "cuts 0", "crowded 1", "fewest 0",
        "delay 0", "speed 1", "level 2", "days 2"};
    private static final String[] RULED_OUT = {
        "\\b(throw|throws|try|catch|synchronized|assert|package|protected|yield)\\b", "->", "::",
        "\\b(System\\.(?!arraycopy)|Random|Thread|Object|Exact|hashCode|toString)", "@",
        "\\bimport (?!java\\.util\\.Arrays;)"};

    public static void main(String[] args) throws IOException {
        constants();
        face();
        membersInside();
        String source = Files.readString(Path.of(SOURCE));
        lengths(source);
        words(source);
        Check.finish();
    }

    private static void constants() {
        Check.due("BAD", LoomShed.BAD, -1);
        Check.due("NOT", LoomShed.NOT, -2);
        Check.due("NONE", LoomShed.NONE, -3);
        Check.due("CAST", LoomShed.CAST, -13);
    }

    private static void face() {
        Class<?> face = LoomShed.class;
        Check.due("public final", face.getModifiers(), Modifier.PUBLIC | Modifier.FINAL);
        Set<String> due = new HashSet<>(Set.of(NAMES));
        Set<String> names = new HashSet<>();
        for (Method m : face.getDeclaredMethods()) {
            if (Modifier.isPublic(m.getModifiers())) {
                names.add(m.getName());
                Check.holds(m + " is of the face", due.remove(m.getName() + " " + m.getParameterCount()));
                Check.due(m + ", its modifiers", m.getModifiers(), Modifier.PUBLIC);
                Check.holds(m + " answers an int", m.getReturnType() == int.class);
                for (Class<?> type : m.getParameterTypes()) {
                    Check.holds(m + " takes ints", type == int.class);
                }
            }
        }
        Check.holds("nothing of the face is missing: " + due, due.isEmpty());
        for (Method m : face.getDeclaredMethods()) {
            boolean isPublic = Modifier.isPublic(m.getModifiers());
            Check.holds(m + " is public or private", isPublic || Modifier.isPrivate(m.getModifiers()));
            Check.holds(m + " has a name of its own", isPublic || !names.contains(m.getName()));
        }
        for (Class<?> inside : face.getDeclaredClasses()) {
            for (Method m : inside.getDeclaredMethods()) {
                Check.holds(m + " has a name of its own", !names.contains(m.getName()));
            }
        }
        constructor(face);
    }

    private static void constructor(Class<?> face) {
        Check.due("constructors", face.getDeclaredConstructors().length, 1);
        for (Constructor<?> c : face.getDeclaredConstructors()) {
            Check.holds(c + " is public", Modifier.isPublic(c.getModifiers()));
            Check.due("parameters", c.getParameterCount(), 0);
        }
    }

    private static void membersInside() {
        int publicFields = 0;
        for (Field f : LoomShed.class.getDeclaredFields()) {
            int is = f.getModifiers();
            publicFields += Modifier.isPublic(is) ? 1 : 0;
            boolean isConstant = Modifier.isStatic(is) && Modifier.isFinal(is);
            Check.holds(f + " is a constant int, if public", !Modifier.isPublic(is)
                    || isConstant && f.getType() == int.class);
            Check.holds(f + " is public or private", Modifier.isPublic(is) || Modifier.isPrivate(is));
            Check.holds(f + " is no static state", !Modifier.isStatic(is) || Modifier.isFinal(is));
        }
        Check.due("public fields", publicFields, 4);
        Check.holds("some twelve classes", LoomShed.class.getDeclaredClasses().length < 12);
        for (Class<?> inside : LoomShed.class.getDeclaredClasses()) {
            Check.holds(inside + " is static", Modifier.isStatic(inside.getModifiers()));
            Check.holds(inside + " is not public", !Modifier.isPublic(inside.getModifiers()));
            Check.holds(inside + " has some twenty fields", inside.getDeclaredFields().length <= 20);
            for (Method m : inside.getDeclaredMethods()) {
                Check.holds(m + " has seven parameters at most", m.getParameterCount() <= 7);
            }
        }
    }

    /** A method ends with the brace that stands below its beginning. */
    private static void lengths(String source) {
        Matcher method = Pattern.compile("(?ms)^( {4}| {8})\\w[^\n;=]*\\) \\{\n.*?^\\1\\}$").matcher(source);
        int methods = 0;
        while (method.find()) {
            String text = method.group();
            methods++;
            Check.holds("short: " + text.split("\n")[0], text.split("\n").length <= 60);
        }
        Check.holds("methods are found", methods > 100);
    }

    private static void words(String source) {
        String code = source.replaceAll("(?s)/\\*.*?\\*/", " ").replaceAll("//[^\n]*", " ");
        for (String ruledOut : RULED_OUT) {
            Check.holds("no " + ruledOut, !Pattern.compile(ruledOut).matcher(code).find());
        }
    }
}
