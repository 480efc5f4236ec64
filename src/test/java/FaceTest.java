import java.lang.reflect.Constructor;
import java.lang.reflect.Field;
import java.lang.reflect.Member;
import java.lang.reflect.Method;
import java.lang.reflect.Modifier;
import java.util.Arrays;
import java.util.Set;
import java.util.TreeSet;

/** The face is the document's and nothing beside it, and calls that throw nothing make no objects. */
public final class FaceTest {
    private static final String[] METHODS = {
        "int earth(int, int, int, int)", "int bring(int, int)", "int blend(int, int)", "int parts(int, int, int)",
        "int cores(int, int)", "int lot(int, int)", "int make(int, int, int, int)", "int look(int, int)",
        "int trial(int, boolean)", "boolean undo(int)", "int days(int)", "int explain(int, int)",
        "int slats(int, int)", "int grade(int, int, int)", "int ungrade()", "int most()",
        "void change(int, int, int)", "int job(int)", "void on(int)", "int changes()", "int count(int)"};

    private static int wrong = 0;

    private static void check(boolean holds, String text) {
        if (!holds) {
            wrong++;
            System.out.println(text);
        }
    }

    private static String text(Method m) {
        StringBuilder types = new StringBuilder();
        for (Class<?> t : m.getParameterTypes()) {
            types.append(types.length() == 0 ? "" : ", ").append(t.getSimpleName());
        }
        return m.getReturnType().getSimpleName() + " " + m.getName() + "(" + types + ")";
    }

    private static void membersAreTheFace() {
        Class<PencilWorks> c = PencilWorks.class;
        check(Modifier.isPublic(c.getModifiers()) && Modifier.isFinal(c.getModifiers()), "the class is public and final");
        Set<String> found = new TreeSet<>();
        for (Method m : c.getDeclaredMethods()) {
            if (!Modifier.isPrivate(m.getModifiers())) {
                check(Modifier.isPublic(m.getModifiers()) && !Modifier.isStatic(m.getModifiers()), "not public: " + m);
                found.add(text(m));
            }
        }
        check(found.equals(new TreeSet<>(Arrays.asList(METHODS))), "the methods are " + found);
        for (Constructor<?> k : c.getDeclaredConstructors()) {
            check(Modifier.isPublic(k.getModifiers()) && k.getParameterCount() == 0, "a constructor too many: " + k);
        }
        for (Field f : c.getDeclaredFields()) {
            check(Modifier.isPrivate(f.getModifiers()) || f.getName().equals("NONE"), "a field too many: " + f);
            check(!Modifier.isStatic(f.getModifiers()) || Modifier.isFinal(f.getModifiers()), "not final: " + f);
        }
    }

    private static void insideIsPlain() {
        Set<String> face = new TreeSet<>();
        for (String m : METHODS) {
            face.add(m.substring(m.indexOf(' ') + 1, m.indexOf('(')));
        }
        check(PencilWorks.class.getDeclaredClasses().length <= 11, "too many classes");
        for (Class<?> inside : PencilWorks.class.getDeclaredClasses()) {
            check(Modifier.isStatic(inside.getModifiers()), "not static: " + inside);
            check(!Modifier.isPublic(inside.getModifiers()), "public: " + inside);
            for (Method m : inside.getDeclaredMethods()) {
                check(!face.contains(m.getName()), "named as one of the face: " + m);
                check(m.getParameterCount() <= 7, "too many parameters: " + m);
            }
            check(Arrays.stream(inside.getDeclaredFields()).filter(FaceTest::isOfObject).count() <= 20,
                "too many fields: " + inside);
        }
    }

    private static boolean isOfObject(Member m) {
        return !Modifier.isStatic(m.getModifiers());
    }

    private static int useAll(PencilWorks x) {
        int sum = 0;
        for (int i = 0; i < 30; i++) {
            sum += x.blend(0, 1000) + x.parts(3, 40, 0) + x.look(0, 5) + x.explain(i, 1) + x.most() + x.count(9);
            for (int j = 0; j < 10; j++) {
                sum += x.job((i + j) % 6);
            }
            sum += x.changes();
        }
        return sum;
    }

    private static PencilWorks filled() {
        PencilWorks x = new PencilWorks();
        for (int i = 0; i < 6; i++) {
            x.earth(i * 7, i * 8, 9 - i, 500);
            x.grade(i, 10 * i + 1, 50);
        }
        for (int i = 0; i < 4; i++) {
            x.cores(0, 1000);
            x.lot(1, 500);
            x.lot(2, 500);
        }
        for (int i = 0; i < 60; i++) {
            x.make(i % 4 * 3, i / 4 % 4 * 3 + 1, i / 16 * 3 + 2, 1);
            x.trial(i, true);
        }
        return x;
    }

    private static void callsMakeNothing() {
        com.sun.management.ThreadMXBean threads =
            (com.sun.management.ThreadMXBean) java.lang.management.ManagementFactory.getThreadMXBean();
        useAll(filled());
        PencilWorks x = filled();
        long self = Thread.currentThread().getId();
        threads.getThreadAllocatedBytes(self);
        long before = threads.getThreadAllocatedBytes(self);
        useAll(x);
        long made = threads.getThreadAllocatedBytes(self) - before;
        check(made < 4096, "480 calls made " + made + " bytes of objects");
        before = threads.getThreadAllocatedBytes(self);
        new PencilWorks();
        made = threads.getThreadAllocatedBytes(self) - before;
        check(made < 20000, "a new object is " + made + " bytes");
    }

    public static void main(String[] args) {
        membersAreTheFace();
        insideIsPlain();
        callsMakeNothing();
        System.out.println(wrong == 0 ? "the face is as due" : wrong + " faults of the face");
        if (wrong != 0) {
            System.exit(1);
        }
    }
}
