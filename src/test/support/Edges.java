import java.lang.reflect.InvocationTargetException;
import java.lang.reflect.Method;
import java.util.ArrayList;
import java.util.List;
import java.util.Map;
import java.util.NoSuchElementException;
import java.util.TreeMap;
import java.util.function.Supplier;

/**
 * What the tests of edges share. A call is told by its name and its numbers (a boolean as 1 or 0), so that a wrong
 * answer can be printed as the call that gave it, and so that one call can be made on an object and not on its twin.
 */
final class Edges {
    static final int LEAST_INT = Integer.MIN_VALUE;
    static final int GREATEST_INT = Integer.MAX_VALUE;
    static final int NONE = -1;
    static final Class<?> INDEX = IndexOutOfBoundsException.class;
    static final Class<?> ARGUMENT = IllegalArgumentException.class;
    static final Class<?> UNSUPPORTED = UnsupportedOperationException.class;
    static final Class<?> NO_ELEMENT = NoSuchElementException.class;

    private static final int[][] GRADES_TO_SEE = {
        {0, 1000}, {0, 0}, {1000, 1000}, {0, 10}, {5, 20}, {0, 115}, {100, 150}, {150, 1000}, {500, 1000}};

    private static final String[] COUNTED = {
        "TODAY", "EARTHS", "LOTS", "BATCHES", "pencils", "TRIALS", "slats", "grades", "JOBS", "COLOUR"};
    private static final String[] ASKED = {"blends", "lots", "known", "most", "changes"};

    private static final Map<String, Method> METHODS = methodsByName();
    private static String sentence = "";
    private static int sentences = 0;
    private static int checks = 0;
    private static int wrong = 0;

    private Edges() {
    }

    private static Map<String, Method> methodsByName() {
        Map<String, Method> found = new TreeMap<>();
        for (Method m : PencilWorks.class.getDeclaredMethods()) {
            found.put(m.getName(), m);
        }
        return found;
    }

    /** The document's words that the checks behind this call stand for. */
    static void sentence(String words) {
        sentence = words;
        sentences++;
    }

    static void end() {
        System.out.println(sentences + " sentences, " + checks + " checks, " + wrong + " wrong");
        if (wrong != 0) {
            System.exit(1);
        }
    }

    private static void fault(String text) {
        wrong++;
        System.out.println("\"" + sentence + "\": " + text);
    }

    private static String text(String name, int... args) {
        StringBuilder text = new StringBuilder(name).append('(');
        for (int i = 0; i < args.length; i++) {
            text.append(i == 0 ? "" : ", ").append(args[i]);
        }
        return text.append(')').toString();
    }

    /** The answer as a text, or the name of the exception's very class. */
    private static String answer(PencilWorks x, String name, int... args) {
        Method m = METHODS.get(name);
        Object[] given = new Object[args.length];
        for (int i = 0; i < args.length; i++) {
            given[i] = m.getParameterTypes()[i] == boolean.class ? (Object) (args[i] == 1) : (Object) args[i];
        }
        try {
            Object got = m.invoke(x, given);
            return got == null ? "0" : got instanceof Boolean ? (boolean) got ? "1" : "0" : got.toString();
        } catch (InvocationTargetException e) {
            return e.getCause().getClass().getName();
        } catch (IllegalAccessException | IllegalArgumentException e) {
            throw new AssertionError(text(name, args) + " is no call of the face", e);
        }
    }

    private static void check(String call, String got, String want) {
        checks++;
        if (!got.equals(want)) {
            fault(call + " answered " + got + ", due is " + want);
        }
    }

    static void due(PencilWorks x, long want, String name, int... args) {
        check(text(name, args), answer(x, name, args), Long.toString(want));
    }

    /** The call throws just this exception; what it leaves is for the calls behind it to show. */
    static void dueThrow(PencilWorks x, Class<?> want, String name, int... args) {
        check(text(name, args), answer(x, name, args), want.getName());
    }

    /** The call throws just this exception, and leaves the object as its twin is, on which it was not made. */
    static void refused(Supplier<PencilWorks> state, Class<?> want, String name, int... args) {
        withoutTrace(state, want.getName(), name, args);
    }

    /** The call answers, and leaves the object as its twin is, on which it was not made. */
    static void dueWithoutTrace(Supplier<PencilWorks> state, long want, String name, int... args) {
        withoutTrace(state, Long.toString(want), name, args);
    }

    private static void withoutTrace(Supplier<PencilWorks> state, String want, String name, int... args) {
        PencilWorks x = state.get();
        check(text(name, args), answer(x, name, args), want);
        checks++;
        List<String> seen = allThatIsSeen(x);
        List<String> due = allThatIsSeen(state.get());
        if (!seen.equals(due)) {
            int at = 0;
            while (at < Math.min(seen.size(), due.size()) && seen.get(at).equals(due.get(at))) {
                at++;
            }
            fault(text(name, args) + " left a trace: " + seen.subList(at, Math.min(at + 1, seen.size()))
                + ", due is " + due.subList(at, Math.min(at + 1, due.size())));
        }
    }

    /**
     * The call answers, and of all that is seen of the object just this is changed by it, in this order: what count
     * tells ("TODAY EARTHS LOTS BATCHES pencils TRIALS slats grades JOBS COLOUR"), then what other calls tell of
     * "blends lots known most changes".
     */
    static void changesOnly(Supplier<PencilWorks> state, String want, long answer, String name, int... args) {
        due(state.get(), answer, name, args);
        StringBuilder changed = new StringBuilder();
        for (int what = 0; what < COUNTED.length; what++) {
            PencilWorks x = state.get();
            answer(x, name, args);
            if (x.count(what) != state.get().count(what)) {
                changed.append(' ').append(COUNTED[what]);
            }
        }
        for (int what = 0; what < ASKED.length; what++) {
            PencilWorks x = state.get();
            answer(x, name, args);
            if (!asked(what, x).equals(asked(what, state.get()))) {
                changed.append(' ').append(ASKED[what]);
            }
        }
        check(text(name, args) + ", of what it changes,", changed.toString().trim(), want);
    }

    private static List<String> asked(int what, PencilWorks x) {
        List<String> seen = new ArrayList<>();
        switch (what) {
            case 0:
                seeEarths(seen, x);
                break;
            case 1:
                seeLots(seen, x);
                break;
            case 2:
                seeTrials(seen, x, 0, 4, 5, 6, 7, 8, GREATEST_INT);
                break;
            case 3:
                seeGrades(seen, x);
                break;
            default:
                seeMachine(seen, x);
        }
        return seen;
    }

    /**
     * One number of a call, the others being right: the least and the greatest are taken (what they do is checked
     * where this is used); those next to them outside, and the least and the greatest int, are refused without trace.
     */
    static void span(Supplier<PencilWorks> state, Class<?> refusal, int place, int[] leastAndGreatest,
            String name, int... args) {
        int least = leastAndGreatest[0];
        int greatest = leastAndGreatest[1];
        for (int taken : new int[] {least, greatest}) {
            int[] given = args.clone();
            given[place] = taken;
            checks++;
            String got = answer(state.get(), name, given);
            if (got.contains("Exception")) {
                fault(text(name, given) + " threw " + got + ", and is to be taken");
            }
        }
        for (int outside : new int[] {LEAST_INT, least - 1, greatest + 1, GREATEST_INT}) {
            int[] given = args.clone();
            given[place] = outside;
            refused(state, refusal, name, given);
        }
    }

    static int[] from(int least, int greatest) {
        return new int[] {least, greatest};
    }

    /** All that calls can tell of an object; it is not to be used any more behind this. 290 calls at most. */
    private static List<String> allThatIsSeen(PencilWorks x) {
        List<String> seen = new ArrayList<>();
        for (int what = 0; what <= 9; what++) {
            see(seen, x, "count", what);
        }
        seeEarths(seen, x);
        seeLots(seen, x);
        int today = x.count(0);
        seeTrials(seen, x, 0, today - 1, today, GREATEST_INT);
        seeGrades(seen, x);
        seeMachine(seen, x);
        return seen;
    }

    private static void see(List<String> seen, PencilWorks x, String name, int... args) {
        seen.add(text(name, args) + " is " + answer(x, name, args));
    }

    private static void seeEarths(List<String> seen, PencilWorks x) {
        int earths = x.count(1);
        for (int earth = 0; earth < earths; earth++) {
            see(seen, x, "bring", earth, 0);
            see(seen, x, "parts", 0, 1000, earth);
        }
        for (int[] grade : GRADES_TO_SEE) {
            see(seen, x, "blend", grade);
        }
    }

    private static void seeLots(List<String> seen, PencilWorks x) {
        int lots = x.count(2);
        for (int lot = 0; lot < lots; lot++) {
            for (int what = 0; what <= 5; what++) {
                see(seen, x, "look", lot, what);
            }
        }
    }

    private static void seeTrials(List<String> seen, PencilWorks x, int... days) {
        for (int day : days) {
            for (int what = 0; what <= 2; what++) {
                see(seen, x, "explain", day, what);
            }
        }
        int trials = x.count(5);
        for (int trial = 0; trial < trials; trial += trials > 20 && trial == 9 ? trials - 19 : 1) {
            see(seen, x, "undo", trial);
        }
    }

    private static void seeGrades(List<String> seen, PencilWorks x) {
        see(seen, x, "most");
        for (int quality = 0; quality <= 9; quality++) {
            see(seen, x, "slats", quality, 0);
        }
        for (int quality = 0; quality <= 9; quality++) {
            see(seen, x, "slats", quality, 10 + quality);
            see(seen, x, "most");
        }
    }

    private static void seeMachine(List<String> seen, PencilWorks x) {
        see(seen, x, "changes");
        see(seen, x, "count", 9);
        for (int from = 0; from <= 5; from++) {
            for (int to = 0; to <= 5; to++) {
                x.on(from);
                x.job(to);
                see(seen, x, "changes");
            }
        }
    }
}
