import java.lang.reflect.Constructor;
import java.lang.reflect.Field;
import java.lang.reflect.Method;
import java.lang.reflect.Modifier;
import java.util.Arrays;
import java.util.TreeSet;

/** The public face: just what the document names, and nothing else that is not private. */
public final class FaceTest {
    private static final String[] METHODS = {
        "int create(int,int,int)", "int extend(int,int)", "int reduce(int,int)", "int move(int,int,int)",
        "int step()", "int cancel()", "int read(int,int)", "int write(int,int,int)", "boolean pull(int)",
        "boolean plug(int)", "boolean arm(int)", "boolean crash()", "int activate()", "int where(int,int)",
        "int rows(int)", "int free(int)", "int moving()", "int sequence()", "int slot(int,int)"};

    public static void main(String[] args) throws Exception {
        Script s = new Script();
        same(s, "methods", methods(), new TreeSet<>(Arrays.asList(METHODS)));
        same(s, "constructors", constructors(), new TreeSet<>(Arrays.asList("(int,int)")));
        TreeSet<String> constants = new TreeSet<>(Script.NAMES.keySet());
        constants.removeAll(Arrays.asList("true", "false", "MAX", "MIN"));
        same(s, "constants", constants(s), constants);
        int modifiers = ExtentGroup.class.getModifiers();
        s.due("public and final", Modifier.isPublic(modifiers) && Modifier.isFinal(modifiers) ? 1 : 0, 1);
        noStaticState(s, ExtentGroup.class);
        for (Class<?> inside : ExtentGroup.class.getDeclaredClasses()) {
            s.due(inside + " is static", Modifier.isStatic(inside.getModifiers()) ? 1 : 0, 1);
            noStaticState(s, inside);
        }
        s.end();
    }

    private static void same(Script s, String what, TreeSet<String> got, TreeSet<String> want) {
        s.due(what + " " + got + " for " + want, got.equals(want) ? 1 : 0, 1);
    }

    private static TreeSet<String> methods() {
        TreeSet<String> found = new TreeSet<>();
        for (Method m : ExtentGroup.class.getDeclaredMethods()) {
            if (!Modifier.isPrivate(m.getModifiers())) {
                found.add(m.getReturnType() + " " + m.getName() + types(m.getParameterTypes()));
            }
        }
        return found;
    }

    private static TreeSet<String> constructors() {
        TreeSet<String> found = new TreeSet<>();
        for (Constructor<?> c : ExtentGroup.class.getDeclaredConstructors()) {
            found.add(types(c.getParameterTypes()));
        }
        return found;
    }

    private static TreeSet<String> constants(Script s) throws Exception {
        TreeSet<String> found = new TreeSet<>();
        for (Field f : ExtentGroup.class.getDeclaredFields()) {
            if (!Modifier.isPrivate(f.getModifiers())) {
                found.add(f.getName());
                s.due(f.getName(), f.getInt(null), Script.NAMES.getOrDefault(f.getName(), 0));
            }
        }
        return found;
    }

    private static void noStaticState(Script s, Class<?> type) {
        for (Field f : type.getDeclaredFields()) {
            boolean fine = !Modifier.isStatic(f.getModifiers()) || Modifier.isFinal(f.getModifiers());
            s.due(f + " is final if static", fine ? 1 : 0, 1);
        }
    }

    private static String types(Class<?>[] types) {
        return Arrays.toString(types).replace("[", "(").replace("]", ")").replace(" ", "");
    }
}
