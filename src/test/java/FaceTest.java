import java.lang.reflect.Constructor;
import java.lang.reflect.Field;
import java.lang.reflect.Method;
import java.lang.reflect.Modifier;
import java.util.Arrays;
import java.util.Set;
import java.util.TreeSet;

/** The face is the document's and nothing beside it, and calls that throw nothing make no objects. */
public final class FaceTest {
    /** With the exceptions that each names, in the document's order. */
    private static final String[] METHODS = {
        "int earth(int, int, int, int) IllegalArgumentException UnsupportedOperationException",
        "int bring(int, int) IndexOutOfBoundsException IllegalArgumentException",
        "int blend(int, int) IllegalArgumentException",
        "int parts(int, int, int) IndexOutOfBoundsException IllegalArgumentException",
        "int cores(int, int) IllegalArgumentException",
        "int lot(int, int) IllegalArgumentException UnsupportedOperationException",
        "int make(int, int, int, int) IndexOutOfBoundsException IllegalArgumentException",
        "int look(int, int) IndexOutOfBoundsException NoSuchElementException",
        "int trial(int, boolean) IndexOutOfBoundsException",
        "boolean undo(int) IndexOutOfBoundsException",
        "int days(int) IllegalArgumentException",
        "int explain(int, int) NoSuchElementException",
        "int slats(int, int) IllegalArgumentException",
        "int grade(int, int, int) IllegalArgumentException",
        "int ungrade()",
        "int most()",
        "void change(int, int, int) IndexOutOfBoundsException IllegalArgumentException",
        "int job(int) IndexOutOfBoundsException",
        "void on(int) IndexOutOfBoundsException",
        "int changes()",
        "int count(int)"};

    private static int wrong = 0;

    private static void check(boolean holds, String text) {
        if (!holds) {
            wrong++;
            System.out.println(text);
        }
    }

    private static String text(Method m) {
        StringBuilder types = new StringBuilder();
        for (Class<?> t : m.getParameterTypes()) {
            types.append(types.length() == 0 ? "" : ", ").append(t.getSimpleName());
        }
        StringBuilder named = new StringBuilder();
        for (Class<?> e : m.getExceptionTypes()) {
            named.append(' ').append(e.getSimpleName());
        }
        return m.getReturnType().getSimpleName() + " " + m.getName() + "(" + types + ")" + named;
    }

    private static void membersAreTheFace() {
        Class<PencilWorks> c = PencilWorks.class;
        check(Modifier.isPublic(c.getModifiers()) && Modifier.isFinal(c.getModifiers()), "the class is public and final");
        check(c.getSuperclass() == Object.class && c.getInterfaces().length == 0, "the class is of no other one");
        Set<String> found = new TreeSet<>();
        for (Method m : c.getDeclaredMethods()) {
            if (Modifier.isPrivate(m.getModifiers())) {
                check(Arrays.stream(METHODS).noneMatch(f -> f.contains(" " + m.getName() + "(")),
                    "named as one of the face: " + m);
            } else {
                check(Modifier.isPublic(m.getModifiers()) && !Modifier.isStatic(m.getModifiers()), "not public: " + m);
                found.add(text(m));
            }
        }
        check(found.equals(new TreeSet<>(Arrays.asList(METHODS))), "the methods are " + found);
        check(c.getDeclaredConstructors().length == 1, "there is one constructor");
        for (Constructor<?> k : c.getDeclaredConstructors()) {
            check(Modifier.isPublic(k.getModifiers()) && k.getParameterCount() == 0
                && k.getExceptionTypes().length == 0, "not the document's constructor: " + k);
        }
        for (Field f : c.getDeclaredFields()) {
            check(Modifier.isPrivate(f.getModifiers()) || f.getName().equals("NONE"), "a field too many: " + f);
            check(!Modifier.isStatic(f.getModifiers()) || Modifier.isFinal(f.getModifiers()), "not final: " + f);
        }
        check(Arrays.stream(c.getDeclaredFields()).anyMatch(FaceTest::isNone), "public static final int NONE = -1");
    }

    private static boolean isNone(Field f) {
        int all = Modifier.PUBLIC | Modifier.STATIC | Modifier.FINAL;
        return f.getName().equals("NONE") && f.getType() == int.class && f.getModifiers() == all
            && PencilWorks.NONE == -1;
    }

    /** LANGUAGE rule 1. What else it says of the classes inside, LanguageTest looks at. */
    private static void insideIsApart() {
        Set<String> face = new TreeSet<>();
        for (String m : METHODS) {
            face.add(m.substring(m.indexOf(' ') + 1, m.indexOf('(')));
        }
        for (Class<?> inside : PencilWorks.class.getDeclaredClasses()) {
            check(!Modifier.isPublic(inside.getModifiers()), "public: " + inside);
            for (Method m : inside.getDeclaredMethods()) {
                check(!face.contains(m.getName()), "named as one of the face: " + m);
            }
        }
    }

    private static int useAll(PencilWorks x) {
        int sum = 0;
        for (int i = 0; i < 30; i++) {
            sum += x.blend(0, 1000) + x.parts(3, 40, 0) + x.look(0, 5) + x.explain(i, 1) + x.most() + x.count(9);
            for (int j = 0; j < 10; j++) {
                sum += x.job((i + j) % 6);
            }
            sum += x.changes();
        }
        return sum;
    }

    private static PencilWorks filled() {
        PencilWorks x = new PencilWorks();
        for (int i = 0; i < 6; i++) {
            x.earth(i * 7, i * 8, 9 - i, 500);
            x.grade(i, 10 * i + 1, 50);
        }
        for (int i = 0; i < 4; i++) {
            x.cores(0, 1000);
            x.lot(1, 500);
            x.lot(2, 500);
        }
        for (int i = 0; i < 60; i++) {
            x.make(i % 4 * 3, i / 4 % 4 * 3 + 1, i / 16 * 3 + 2, 1);
            x.trial(i, true);
        }
        return x;
    }

    private static void callsMakeNothing() {
        com.sun.management.ThreadMXBean threads =
            (com.sun.management.ThreadMXBean) java.lang.management.ManagementFactory.getThreadMXBean();
        useAll(filled());
        PencilWorks x = filled();
        long self = Thread.currentThread().getId();
        threads.getThreadAllocatedBytes(self);
        long before = threads.getThreadAllocatedBytes(self);
        useAll(x);
        long made = threads.getThreadAllocatedBytes(self) - before;
        check(made < 4096, "480 calls made " + made + " bytes of objects");
        before = threads.getThreadAllocatedBytes(self);
        new PencilWorks();
        made = threads.getThreadAllocatedBytes(self) - before;
        check(made < 20000, "a new object is " + made + " bytes");
    }

    public static void main(String[] args) {
        membersAreTheFace();
        insideIsApart();
        callsMakeNothing();
        System.out.println(wrong == 0 ? "the face is as due" : wrong + " faults of the face");
        if (wrong != 0) {
            System.exit(1);
        }
    }
}
