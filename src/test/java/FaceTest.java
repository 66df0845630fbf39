import java.lang.reflect.Constructor;
import java.lang.reflect.Field;
import java.lang.reflect.Member;
import java.lang.reflect.Method;
import java.lang.reflect.Modifier;
import java.util.Arrays;
import java.util.Set;
import java.util.TreeSet;

/** The public face, and rule 1 of LANGUAGE.md. */
public final class FaceTest {
    private static final String[] FACE = {
        "int fork(int, boolean, boolean)", "int exit(int)", "int reap(int)", "int kill(int, int)",
        "int number(int, int) throws Index", "int find(int, int) throws Index",
        "int task(int, int) throws Index", "int count(int) throws Index", "int group(int)",
        "int set(int, int, int) throws Index Argument", "int told(int, int) throws Index",
        "int charge(int, int) throws Argument", "int release(int, int) throws Argument",
        "int cache(int, int) throws Argument", "int move(int, int)",
        "int badness(int, int) throws Argument", "int ticks(int) throws Argument",
        "int sleep(int, boolean)", "int ran(int)", "long time(boolean, int)",
        "int mount(int, int, int, boolean) throws Argument", "int unmount(int, int)",
        "int at(int, int)", "int share(int, boolean) throws Index",
        "int mounted(int, int) throws Index"};

    public static void main(String[] args) {
        Class<?> c = TaskTrees.class;
        Check.due("public and final", c.getModifiers(), Modifier.PUBLIC | Modifier.FINAL);
        constants(c);
        methods(c);
        Constructor<?>[] made = c.getDeclaredConstructors();
        Check.due("one constructor", made.length, 1);
        Check.due("public", made[0].getModifiers(), Modifier.PUBLIC);
        Check.due("its arguments", made[0].getParameterCount(), 0);
        for (Class<?> inner : c.getDeclaredClasses()) {
            Check.due(inner + " is static", inner.getModifiers() & Modifier.STATIC, Modifier.STATIC);
            int open = inner.getModifiers() & (Modifier.PUBLIC | Modifier.PROTECTED);
            Check.due(inner + " is no part of the face", open, 0);
        }
        names(c);
        Check.end();
    }

    private static void constants(Class<?> c) {
        Check.due("NONE", TaskTrees.NONE, -1);
        Check.due("FULL", TaskTrees.FULL, -2);
        Check.due("LIMIT", TaskTrees.LIMIT, -3);
        Check.due("BUSY", TaskTrees.BUSY, -4);
        Check.due("KILLED", TaskTrees.KILLED, -5);
        Set<String> names = new TreeSet<>();
        int constant = Modifier.PUBLIC | Modifier.STATIC | Modifier.FINAL;
        for (Field f : c.getDeclaredFields()) {
            if (isOpen(f)) {
                names.add(f.getName());
                Check.due(f.getName() + " is a constant", f.getModifiers(), constant);
                Check.due(f.getName() + " is an int", f.getType() == int.class ? 1 : 0, 1);
            }
        }
        same("constants", names, "NONE", "FULL", "LIMIT", "BUSY", "KILLED");
    }

    private static void methods(Class<?> c) {
        Set<String> open = new TreeSet<>();
        for (Method m : c.getDeclaredMethods()) {
            if (isOpen(m)) {
                String types = Arrays.toString(m.getParameterTypes());
                open.add(m.getReturnType() + " " + m.getName() + "("
                        + types.substring(1, types.length() - 1) + ")" + thrown(m));
                Check.due(m.getName() + " is public", m.getModifiers(), Modifier.PUBLIC);
            }
        }
        same("methods", open, FACE);
    }

    private static String thrown(Method m) {
        StringBuilder text = new StringBuilder();
        for (Class<?> e : m.getExceptionTypes()) {
            text.append(text.length() == 0 ? " throws " : " ");
            text.append(e == IndexOutOfBoundsException.class ? "Index"
                    : e == IllegalArgumentException.class ? "Argument" : e.getName());
        }
        return text.toString();
    }

    /** No method of the classes inside, and no private one, bears the name of a public one. */
    private static void names(Class<?> c) {
        Set<String> open = new TreeSet<>();
        Set<String> hidden = new TreeSet<>();
        for (Method m : c.getDeclaredMethods()) {
            (isOpen(m) ? open : hidden).add(m.getName());
        }
        for (Class<?> inner : c.getDeclaredClasses()) {
            for (Method m : inner.getDeclaredMethods()) {
                hidden.add(m.getName());
            }
        }
        hidden.retainAll(open);
        same("names that are used twice", hidden);
    }

    private static boolean isOpen(Member m) {
        return !Modifier.isPrivate(m.getModifiers()) && !m.isSynthetic();
    }

    private static void same(String what, Set<String> got, String... due) {
        Set<String> want = new TreeSet<>(Arrays.asList(due));
        if (!got.equals(want)) {
            Check.fault(what + " are " + got + ", due are " + want);
        }
    }
}
