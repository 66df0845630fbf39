import java.lang.reflect.Constructor;
import java.lang.reflect.Field;
import java.lang.reflect.Member;
import java.lang.reflect.Method;
import java.lang.reflect.Modifier;
import java.util.Arrays;
import java.util.Set;
import java.util.TreeSet;

/** The public face, and rule 1 of LANGUAGE.md. */
public final class FaceTest {
    private static final String[] FACE = {
        "int fork(int, boolean, boolean)", "int exit(int)", "int reap(int)", "int kill(int, int)",
        "int number(int, int)", "int find(int, int)", "int task(int, int)", "int count(int)",
        "int group(int)", "int set(int, int, int)", "int told(int, int)", "int charge(int, int)",
        "int release(int, int)", "int cache(int, int)", "int move(int, int)",
        "int badness(int, int)", "int ticks(int)", "int sleep(int, boolean)", "int ran(int)",
        "long time(boolean, int)", "int mount(int, int, int, boolean)", "int unmount(int, int)",
        "int at(int, int)", "int share(int, boolean)", "int mounted(int, int)"};

    public static void main(String[] args) {
        Class<?> c = TaskTrees.class;
        Check.due("public and final", c.getModifiers(), Modifier.PUBLIC | Modifier.FINAL);
        constants(c);
        methods(c);
        Constructor<?>[] made = c.getDeclaredConstructors();
        Check.due("one constructor", made.length, 1);
        Check.due("public", made[0].getModifiers(), Modifier.PUBLIC);
        Check.due("its arguments", made[0].getParameterCount(), 0);
        for (Class<?> inner : c.getDeclaredClasses()) {
            Check.due(inner + " is static", inner.getModifiers() & Modifier.STATIC, Modifier.STATIC);
        }
        Check.end();
    }

    private static void constants(Class<?> c) {
        Check.due("NONE", TaskTrees.NONE, -1);
        Check.due("FULL", TaskTrees.FULL, -2);
        Check.due("LIMIT", TaskTrees.LIMIT, -3);
        Check.due("BUSY", TaskTrees.BUSY, -4);
        Check.due("KILLED", TaskTrees.KILLED, -5);
        Set<String> names = new TreeSet<>();
        for (Field f : c.getDeclaredFields()) {
            if (isOpen(f)) {
                names.add(f.getName());
            }
        }
        same("constants", names, "NONE", "FULL", "LIMIT", "BUSY", "KILLED");
    }

    private static void methods(Class<?> c) {
        Set<String> open = new TreeSet<>();
        for (Method m : c.getDeclaredMethods()) {
            if (isOpen(m)) {
                String types = Arrays.toString(m.getParameterTypes());
                open.add(m.getReturnType() + " " + m.getName() + "("
                        + types.substring(1, types.length() - 1) + ")");
            }
        }
        same("methods", open, FACE);
    }

    private static boolean isOpen(Member m) {
        return !Modifier.isPrivate(m.getModifiers()) && !m.isSynthetic();
    }

    private static void same(String what, Set<String> got, String... due) {
        Set<String> want = new TreeSet<>(Arrays.asList(due));
        if (!got.equals(want)) {
            Check.fault(what + " are " + got + ", due are " + want);
        }
    }
}
