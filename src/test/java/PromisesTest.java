import java.util.NoSuchElementException;

/** Each promise of the document by itself: ordinary inputs, the edges it names, and wrong inputs. */
public final class PromisesTest {
    private interface Call {
        long answer();
    }

    private static final Class<?> INDEX = IndexOutOfBoundsException.class;
    private static final Class<?> ARGUMENT = IllegalArgumentException.class;
    private static final Class<?> UNSUPPORTED = UnsupportedOperationException.class;
    private static final Class<?> NO_ELEMENT = NoSuchElementException.class;

    private static int checks = 0;
    private static int wrong = 0;

    private static void due(String call, long got, long want) {
        checks++;
        if (got != want) {
            wrong++;
            System.out.println(call + " answered " + got + ", due is " + want);
        }
    }

    private static void dueThrow(String call, Class<?> want, Call made) {
        checks++;
        Class<?> got = null;
        try {
            made.answer();
        } catch (RuntimeException e) {
            got = e.getClass();
        }
        if (got != want) {
            wrong++;
            System.out.println(call + " threw " + got + ", due is " + want);
        }
    }

    private static long run(Runnable r) {
        r.run();
        return 0;
    }

    public static void main(String[] args) {
        newObject();
        earth();
        bring();
        blend();
        parts();
        cores();
        lot();
        make();
        look();
        trial();
        undo();
        days();
        explain();
        explainOnDays();
        slats();
        grade();
        ungrade();
        most();
        change();
        job();
        on();
        changes();
        changesTies();
        count();
        System.out.println(checks + " checks, " + wrong + " wrong");
        if (wrong != 0) {
            System.exit(1);
        }
    }

    private static void newObject() {
        PencilWorks x = new PencilWorks();
        due("NONE", PencilWorks.NONE, -1);
        for (int what = 0; what <= 8; what++) {
            due("new: count(" + what + ")", x.count(what), 0);
        }
        due("new: count(9)", x.count(9), -1);
        due("new: blend", x.blend(0, 1000), -1);
        due("new: most", x.most(), 0);
        due("new: changes", x.changes(), 0);
        due("new: explain 0", x.explain(0, 0), 0);
        due("new: explain 1", x.explain(0, 1), 1);
        due("new: explain 2", x.explain(0, 2), 0);
    }

    private static void earth() {
        PencilWorks x = new PencilWorks();
        int[][] bad = {
            {-1, 5, 1, 0}, {0, -1, 1, 0}, {6, 5, 1, 0}, {0, 1001, 1, 0}, {1001, 1001, 1, 0}, {0, 0, 0, 0},
            {0, 0, -1, 0}, {0, 0, 1001, 0}, {0, 0, 1, -1}, {0, 0, 1, 1001},
            {Integer.MIN_VALUE, Integer.MAX_VALUE, 1, 0}, {0, 0, Integer.MAX_VALUE, 0}, {0, 0, 1, Integer.MIN_VALUE}};
        for (int[] b : bad) {
            dueThrow("earth wrong", ARGUMENT, () -> x.earth(b[0], b[1], b[2], b[3]));
        }
        due("earth: none came", x.count(1), 0);
        due("earth: least numbers", x.earth(0, 0, 1, 0), 0);
        due("earth: greatest numbers", x.earth(1000, 1000, 1000, 1000), 1);
        due("earth: whole span", x.earth(0, 1000, 5, 5), 2);
        for (int i = 3; i < 6; i++) {
            due("earth: number", x.earth(1, 2, 3, 4), i);
        }
        dueThrow("earth: the seventh", UNSUPPORTED, () -> x.earth(0, 0, 1, 0));
        dueThrow("earth: the seventh, wrong", ARGUMENT, () -> x.earth(2, 1, 1, 0));
        due("earth: six", x.count(1), 6);
    }

    private static void bring() {
        PencilWorks x = new PencilWorks();
        dueThrow("bring: no earth", INDEX, () -> x.bring(0, 1));
        x.earth(5, 5, 1, 3);
        due("bring 0", x.bring(0, 0), 3);
        due("bring 6", x.bring(0, 6), 9);
        due("bring: nine are too few", x.blend(0, 1000), -1);
        due("bring 1", x.bring(0, 1), 10);
        due("bring: ten do", x.blend(0, 1000), 10);
        dueThrow("bring -1", ARGUMENT, () -> x.bring(0, -1));
        dueThrow("bring 991", ARGUMENT, () -> x.bring(0, 991));
        dueThrow("bring 1001", ARGUMENT, () -> x.bring(0, 1001));
        dueThrow("bring the greatest int", ARGUMENT, () -> x.bring(0, Integer.MAX_VALUE));
        dueThrow("bring to 1", INDEX, () -> x.bring(1, 1));
        dueThrow("bring to -1, wrong", INDEX, () -> x.bring(-1, -1));
        due("bring: nothing changed", x.bring(0, 0), 10);
        due("bring to the brim", x.bring(0, 990), 1000);
        dueThrow("bring 1 more", ARGUMENT, () -> x.bring(0, 1));
        PencilWorks y = new PencilWorks();
        y.earth(5, 5, 1, 0);
        due("bring 1000", y.bring(0, 1000), 1000);
    }

    private static void wrongGrades(String name, java.util.function.IntBinaryOperator call) {
        int[][] bad = {{-1, 5}, {5, 4}, {0, 1001}, {1001, 1001}, {-2, -1}, {Integer.MIN_VALUE, Integer.MAX_VALUE}};
        for (int[] b : bad) {
            dueThrow(name + "(" + b[0] + ", " + b[1] + ")", ARGUMENT, () -> call.applyAsInt(b[0], b[1]));
        }
    }

    private static void blend() {
        PencilWorks x = new PencilWorks();
        wrongGrades("blend", x::blend);
        x.earth(100, 101, 7, 10);
        x.earth(300, 309, 2, 10);
        due("blend: the dear one alone", x.blend(100, 101), 70);
        due("blend: the cheap one alone", x.blend(300, 309), 20);
        due("blend: cheap one's high is too high", x.blend(300, 308), -1);
        due("blend: cheap one's low is too low", x.blend(301, 309), -1);
        // one part of the cheap one: lows 1200, highs 1218: 120 to 122
        due("blend: low is 120, high is rounded up", x.blend(120, 122), 65);
        due("blend: high is not 121", x.blend(120, 121), -1);
        due("blend: low is not 121", x.blend(121, 122), -1);
        PencilWorks y = new PencilWorks();
        y.earth(11, 11, 1, 9);
        y.earth(20, 20, 1, 1);
        // 9 * 11 + 20 = 119: low 11, high 12
        due("blend: rounded down and up", y.blend(11, 12), 10);
        due("blend: low is 11", y.blend(12, 12), -1);
        due("blend: high is 12", y.blend(0, 11), -1);
        PencilWorks z = new PencilWorks();
        z.earth(1000, 1000, 1000, 1000);
        due("blend: greatest price", z.blend(1000, 1000), 10000);
        due("blend: changes nothing", z.bring(0, 0), 1000);
        PencilWorks v = new PencilWorks();
        for (int i = 0; i < 6; i++) {
            v.earth(i, i, 6 - i, i == 5 ? 5 : 1);
        }
        due("blend: all six of all they have", v.blend(0, 1000), 6 + 5 + 4 + 3 + 2 + 5);
    }

    private static void parts() {
        PencilWorks x = new PencilWorks();
        dueThrow("parts: no earth, wrong grade", INDEX, () -> x.parts(5, 4, 0));
        x.earth(50, 50, 2, 10);
        x.earth(50, 50, 2, 4);
        x.earth(50, 50, 2, 3);
        wrongGrades("parts", (a, b) -> x.parts(a, b, 0));
        dueThrow("parts of 3", INDEX, () -> x.parts(0, 1000, 3));
        dueThrow("parts of -1", INDEX, () -> x.parts(0, 1000, -1));
        due("parts: fewest of earth 0", x.parts(50, 50, 0), 3);
        due("parts of 1", x.parts(50, 50, 1), 4);
        due("parts of 2", x.parts(50, 50, 2), 3);
        due("parts without a blend", x.parts(51, 60, 0), -1);
        x.earth(50, 50, 1, 2);
        due("parts: cheaper first", x.parts(50, 50, 3), 2);
        due("parts: then fewest of 0", x.parts(50, 50, 0), 1);
        PencilWorks y = new PencilWorks();
        y.earth(10, 10, 4, 1000);
        y.earth(0, 0, 3, 1000);
        y.earth(20, 20, 5, 1000);
        // 10 of earth 0, or 5 of each of the others, and all between: price 40 each
        due("parts: a tie of other earths", y.parts(10, 10, 0), 0);
        due("parts: the tie's second", y.parts(10, 10, 1), 5);
        due("parts: the tie's third", y.parts(10, 10, 2), 5);
    }

    private static void cores() {
        PencilWorks x = new PencilWorks();
        wrongGrades("cores", x::cores);
        due("cores without earths", x.cores(0, 1000), -1);
        x.earth(11, 13, 1, 15);
        x.earth(20, 25, 9, 15);
        due("cores", x.cores(0, 1000), 0);
        due("cores: taken off", x.bring(0, 0), 5);
        due("cores: not taken off", x.bring(1, 0), 15);
        due("cores: kind", x.look(0, 0), 0);
        due("cores: pieces", x.look(0, 1), 40);
        due("cores: none used", x.look(0, 2), 0);
        due("cores: low", x.look(0, 3), 11);
        due("cores: high", x.look(0, 4), 13);
        due("cores: half and half", x.cores(0, 1000), 1);
        due("cores: low rounded down of 15.5", x.look(1, 3), 15);
        due("cores: high 19", x.look(1, 4), 19);
        PencilWorks y = new PencilWorks();
        y.earth(10, 10, 1, 9);
        y.earth(11, 11, 1, 1);
        y.cores(0, 1000);
        due("cores: low rounded down of 10.1", y.look(0, 3), 10);
        due("cores: high rounded up of 10.1", y.look(0, 4), 11);
        due("cores: earth 0 is used up", x.bring(0, 0), 0);
        due("cores: earth 1 has ten", x.bring(1, 0), 10);
        due("cores without a blend", x.cores(0, 19), -1);
        due("cores: nothing happened", x.count(2) * 100 + x.bring(1, 0), 210);
        x.bring(1, 500);
        for (int i = 2; i < 12; i++) {
            due("cores: number", x.cores(0, 1000), i);
        }
        int left = x.bring(1, 0);
        due("cores: the thirteenth", x.cores(0, 1000), -1);
        due("cores: nothing is taken", x.bring(1, 0), left);
        dueThrow("cores: the thirteenth, wrong", ARGUMENT, () -> x.cores(2, 1));
    }

    private static void lot() {
        PencilWorks x = new PencilWorks();
        int[][] bad = {{0, 5}, {3, 5}, {-1, 5}, {1, -1}, {2, 10001}, {Integer.MAX_VALUE, 0}, {1, Integer.MIN_VALUE}};
        for (int[] b : bad) {
            dueThrow("lot(" + b[0] + ", " + b[1] + ")", ARGUMENT, () -> x.lot(b[0], b[1]));
        }
        due("lot: none came", x.count(2), 0);
        for (int i = 0; i < 12; i++) {
            due("lot: number", x.lot(1 + i % 2, i == 0 ? 10000 : 0), i);
        }
        due("lot: kind 1", x.look(0, 0), 1);
        due("lot: kind 2", x.look(1, 0), 2);
        due("lot: pieces", x.look(0, 1), 10000);
        due("lot: no pieces", x.look(1, 1), 0);
        dueThrow("lot: the thirteenth", UNSUPPORTED, () -> x.lot(1, 1));
        dueThrow("lot: the thirteenth, wrong", ARGUMENT, () -> x.lot(0, 1));
        due("lot: twelve", x.count(2), 12);
    }

    /** Lots 0 and 1 are cores, 2 and 3 slats, 4 and 5 lacquer. */
    private static PencilWorks sixLots() {
        PencilWorks x = new PencilWorks();
        x.earth(7, 9, 1, 1000);
        x.cores(0, 1000);
        x.cores(0, 1000);
        x.lot(1, 100);
        x.lot(1, 100);
        x.lot(2, 100);
        x.lot(2, 100);
        return x;
    }

    private static void make() {
        PencilWorks x = sixLots();
        dueThrow("make: no core", INDEX, () -> x.make(6, 2, 4, 1));
        dueThrow("make: no slat", INDEX, () -> x.make(0, -1, 4, 1));
        dueThrow("make: no lacquer, wrong n", INDEX, () -> x.make(0, 2, 6, 0));
        dueThrow("make: no lacquer, wrong kind", INDEX, () -> x.make(2, 2, 6, 1));
        dueThrow("make: n 0", ARGUMENT, () -> x.make(0, 2, 4, 0));
        dueThrow("make: n -1", ARGUMENT, () -> x.make(0, 2, 4, -1));
        dueThrow("make: n 1001", ARGUMENT, () -> x.make(0, 2, 4, 1001));
        dueThrow("make: core is none", ARGUMENT, () -> x.make(2, 2, 4, 1));
        dueThrow("make: slat is none", ARGUMENT, () -> x.make(0, 4, 4, 1));
        dueThrow("make: lacquer is none", ARGUMENT, () -> x.make(0, 2, 3, 1));
        due("make: too few cores", x.make(0, 2, 4, 41), -1);
        due("make: n 1000", x.make(0, 2, 4, 1000), -1);
        due("make: no batch", x.count(3), 0);
        due("make: all cores", x.make(0, 2, 4, 40), 0);
        due("make: pieces left", x.look(2, 1), 60);
        due("make: core used up", x.look(0, 1), 0);
        due("make: one more", x.make(0, 2, 4, 1), -1);
        due("make: nothing happened", x.look(2, 1) * 1000 + x.look(4, 1), 60060);
        due("make: another", x.make(1, 2, 5, 10), 1);
        due("make: pencils", x.count(4), 50);
        PencilWorks y = sixLots();
        y.lot(1, 3);
        y.lot(2, 2);
        due("make: too few slats", y.make(0, 6, 4, 4), -1);
        due("make: too little lacquer", y.make(0, 2, 7, 3), -1);
        due("make: just enough", y.make(0, 6, 7, 2), 0);
        PencilWorks z = sixLots();
        for (int i = 0; i < 60; i++) {
            due("make: number", z.make(i % 2, 2, 4, 1), i);
        }
        due("make: the 61st", z.make(0, 2, 4, 1), -1);
        due("make: the 61st uses nothing", z.look(2, 1), 40);
        dueThrow("make: the 61st, wrong", ARGUMENT, () -> z.make(0, 2, 4, 0));
        due("make: sixty", z.count(3) * 100 + z.count(4), 6060);
    }

    private static void look() {
        PencilWorks x = sixLots();
        dueThrow("look: no lot", INDEX, () -> x.look(6, 0));
        dueThrow("look: no lot, wrong what", INDEX, () -> x.look(-1, 9));
        dueThrow("look: what 6", NO_ELEMENT, () -> x.look(0, 6));
        dueThrow("look: what -1", NO_ELEMENT, () -> x.look(5, -1));
        for (int lot = 0; lot < 6; lot++) {
            due("look: kind", x.look(lot, 0), lot / 2);
            due("look: low", x.look(lot, 3), lot < 2 ? 7 : -1);
            due("look: high", x.look(lot, 4), lot < 2 ? 9 : -1);
        }
        x.make(0, 2, 4, 10);
        x.make(0, 3, 4, 5);
        x.make(1, 2, 5, 6);
        due("look: made of 0", x.look(0, 2) * 100 + x.look(0, 1), 1525);
        due("look: made of 2", x.look(2, 2) * 100 + x.look(2, 1), 1684);
        due("look: made of 5", x.look(5, 2) * 100 + x.look(5, 1), 694);
        x.trial(0, true);
        x.trial(0, true);
        x.trial(1, false);
        due("look: one batch, twice", x.look(0, 5), 1);
        x.trial(2, true);
        due("look: of 0", x.look(0, 5), 1);
        due("look: of 2", x.look(2, 5), 2);
        due("look: of 3", x.look(3, 5), 0);
        x.undo(0);
        due("look: the second trial stands", x.look(2, 5), 2);
        x.undo(1);
        due("look: both are taken back", x.look(2, 5), 1);
        x.days(3);
        due("look: as known today", x.look(2, 5), 1);
        x.trial(2, false);
        due("look: broke, though one held", x.look(2, 5), 1);
        PencilWorks y = sixLots();
        for (int i = 0; i < 60; i++) {
            y.make(i % 2, 2, 4, 1);
            y.trial(i, true);
        }
        due("look: sixty batches broke", y.look(2, 5), 60);
        due("look: thirty batches broke", y.look(1, 5), 30);
    }

    private static void trial() {
        PencilWorks x = sixLots();
        dueThrow("trial: no batch", INDEX, () -> x.trial(0, true));
        x.make(0, 2, 4, 1);
        dueThrow("trial: batch -1", INDEX, () -> x.trial(-1, true));
        dueThrow("trial: batch 1", INDEX, () -> x.trial(1, false));
        for (int i = 0; i < 100; i++) {
            due("trial: number", x.trial(0, false), i);
        }
        due("trial: the 101st", x.trial(0, true), -1);
        due("trial: it is not told", x.look(0, 5), 0);
        due("trial: none to explain", x.explain(0, 0), 0);
        dueThrow("trial: the 101st, wrong", INDEX, () -> x.trial(1, true));
        x.undo(5);
        due("trial: one that is taken back counts", x.trial(0, true), -1);
        due("trial: a hundred", x.count(5), 100);
    }

    private static void undo() {
        PencilWorks x = sixLots();
        x.make(0, 2, 4, 1);
        dueThrow("undo: no trial", INDEX, () -> x.undo(0) ? 1 : 0);
        x.trial(0, true);
        dueThrow("undo: trial 1", INDEX, () -> x.undo(1) ? 1 : 0);
        dueThrow("undo: trial -1", INDEX, () -> x.undo(-1) ? 1 : 0);
        x.days(5);
        due("undo", x.undo(0) ? 1 : 0, 1);
        x.days(5);
        due("undo again", x.undo(0) ? 1 : 0, 0);
        due("undo: known on day 0", x.explain(0, 0), 1);
        due("undo: known on day 4", x.explain(4, 0), 1);
        due("undo: not known on day 5", x.explain(5, 0), 0);
        due("undo: not known on day 10", x.explain(10, 0), 0);
        x.trial(0, true);
        due("undo on the same day", x.undo(1) ? 1 : 0, 1);
        due("undo: never known", x.explain(10, 0), 0);
    }

    private static void days() {
        PencilWorks x = new PencilWorks();
        due("days 0", x.days(0), 0);
        due("days 100", x.days(100), 100);
        due("days 99", x.days(99), 199);
        dueThrow("days -1", ARGUMENT, () -> x.days(-1));
        dueThrow("days 101", ARGUMENT, () -> x.days(101));
        due("days: as it was", x.days(0), 199);
        for (int i = 2; i < 10; i++) {
            due("days: on", x.days(100), 99 + 100 * i);
        }
        due("days: to the last", x.days(2), 1000);
        due("days: not beyond", x.days(100), 1000);
        due("days: count", x.count(0), 1000);
        dueThrow("days at the last -1", ARGUMENT, () -> x.days(-1));
    }

    private static void dueExplain(String call, PencilWorks x, int day, int fewest, int ways, int sure) {
        due(call + ": fewest", x.explain(day, 0), fewest);
        due(call + ": ways", x.explain(day, 1), ways);
        due(call + ": sure", x.explain(day, 2), sure);
    }

    private static void explain() {
        PencilWorks x = sixLots();
        dueThrow("explain: what 3", NO_ELEMENT, () -> x.explain(0, 3));
        dueThrow("explain: what -1", NO_ELEMENT, () -> x.explain(0, -1));
        dueExplain("explain nothing", x, 0, 0, 1, 0);
        x.make(0, 2, 4, 1);
        x.make(0, 3, 5, 1);
        x.make(1, 3, 4, 1);
        x.trial(0, true);
        dueExplain("explain one batch", x, 0, 1, 3, 0);
        x.trial(1, true);
        dueExplain("explain by the core", x, 0, 1, 1, 1);
        x.trial(2, true);
        // 0 and 4 and 3 are in two batches each
        dueExplain("explain three batches", x, 0, 2, 6, 0);
        x.trial(2, false);
        dueExplain("explain one that broke and held", x, 0, -1, 0, 0);
        x.undo(2);
        dueExplain("explain what did not hold", x, 0, 1, 1, 1);
        PencilWorks y = sixLots();
        y.make(0, 2, 4, 1);
        y.make(0, 3, 5, 1);
        y.make(1, 2, 5, 1);
        y.make(1, 3, 4, 1);
        y.trial(0, true);
        y.trial(1, false);
        y.trial(2, false);
        dueExplain("explain by the lacquer", y, 0, 1, 1, 16);
        y.trial(3, false);
        dueExplain("explain by nothing", y, 0, -1, 0, 0);
    }

    private static void explainOnDays() {
        PencilWorks x = sixLots();
        x.make(0, 2, 4, 1);
        x.make(0, 3, 5, 1);
        x.days(10);
        x.trial(0, true);
        x.days(10);
        x.trial(1, false);
        x.days(10);
        x.undo(0);
        dueExplain("day before all days", x, -1, 0, 1, 0);
        dueExplain("least day", x, Integer.MIN_VALUE, 0, 1, 0);
        dueExplain("day 9", x, 9, 0, 1, 0);
        dueExplain("day 10", x, 10, 1, 3, 0);
        dueExplain("day 19", x, 19, 1, 3, 0);
        dueExplain("day 20", x, 20, 1, 2, 0);
        dueExplain("day 29", x, 29, 1, 2, 0);
        dueExplain("day 30", x, 30, 0, 1, 0);
        x.trial(1, true);
        dueExplain("a day to come", x, 5000, -1, 0, 0);
        dueExplain("greatest day", x, Integer.MAX_VALUE, -1, 0, 0);
        x.undo(1);
        dueExplain("greatest day, what held is taken back", x, Integer.MAX_VALUE, 1, 3, 0);
        dueExplain("day 29 stays as it was", x, 29, 1, 2, 0);
    }

    private static void slats() {
        PencilWorks x = new PencilWorks();
        int[][] bad = {{-1, 0}, {10, 0}, {0, -1}, {0, 201}, {Integer.MAX_VALUE, 5}, {5, Integer.MIN_VALUE}};
        for (int[] b : bad) {
            dueThrow("slats(" + b[0] + ", " + b[1] + ")", ARGUMENT, () -> x.slats(b[0], b[1]));
        }
        due("slats: none", x.count(6), 0);
        due("slats of 0", x.slats(0, 200), 200);
        due("slats of 9", x.slats(9, 7), 207);
        due("slats in place of what was", x.slats(0, 3), 10);
        due("slats: none of 9", x.slats(9, 0), 3);
        for (int q = 0; q < 10; q++) {
            x.slats(q, 200);
        }
        due("slats: all", x.count(6), 2000);
    }

    private static void grade() {
        PencilWorks x = new PencilWorks();
        int[][] bad = {{-1, 1, 0}, {10, 1, 0}, {0, 0, 0}, {0, 1001, 0}, {0, 1, -1}, {0, 1, 501}};
        for (int[] b : bad) {
            dueThrow("grade wrong", ARGUMENT, () -> x.grade(b[0], b[1], b[2]));
        }
        due("grade: none", x.count(7), 0);
        due("grade: least", x.grade(0, 1, 0), 0);
        due("grade: greatest", x.grade(9, 1000, 500), 1);
        for (int i = 2; i < 6; i++) {
            due("grade: number", x.grade(5, 10 * i, 1), i);
        }
        x.slats(9, 200);
        int most = x.most();
        due("grade: the seventh", x.grade(0, 1000, 500), -1);
        due("grade: it does not come", x.most(), most);
        dueThrow("grade: the seventh, wrong", ARGUMENT, () -> x.grade(0, 0, 0));
        due("grade: six", x.count(7), 6);
    }

    private static void ungrade() {
        PencilWorks x = new PencilWorks();
        due("ungrade without grades", x.ungrade(), 0);
        x.slats(4, 5);
        x.grade(0, 3, 5);
        x.grade(0, 4, 2);
        due("ungrade", x.ungrade(), 2);
        due("ungrade: count", x.count(7), 0);
        due("ungrade: most", x.most(), 0);
        due("ungrade: slats stay", x.count(6), 5);
        due("ungrade: numbers begin anew", x.grade(0, 1, 5), 0);
        due("ungrade: most anew", x.most(), 5);
    }

    private static void most() {
        PencilWorks x = new PencilWorks();
        x.slats(2, 3);
        x.slats(7, 2);
        due("most without grades", x.most(), 0);
        x.grade(7, 5, 500);
        due("most: of the least quality", x.most(), 10);
        x.grade(8, 1000, 500);
        due("most: none is good enough", x.most(), 10);
        x.grade(2, 6, 4);
        // four at 6, the fifth, of quality 7, at 5
        due("most: low slats to the low grade", x.most(), 29);
        x.grade(0, 900, 0);
        due("most: no room", x.most(), 29);
        due("most: changes nothing", x.most(), 29);
        PencilWorks y = new PencilWorks();
        for (int q = 0; q < 10; q++) {
            y.slats(q, 200);
        }
        for (int g = 0; g < 4; g++) {
            y.grade(0, 1000, 500);
        }
        due("most: greatest", y.most(), 2000000);
    }

    private static void change() {
        PencilWorks x = new PencilWorks();
        dueThrow("change from 6", INDEX, () -> run(() -> x.change(6, 0, 1)));
        dueThrow("change to -1, wrong cost", INDEX, () -> run(() -> x.change(0, -1, -1)));
        dueThrow("change from one to itself, out of colours", INDEX, () -> run(() -> x.change(6, 6, 1)));
        dueThrow("change cost -1", ARGUMENT, () -> run(() -> x.change(0, 1, -1)));
        dueThrow("change cost 1001", ARGUMENT, () -> run(() -> x.change(0, 1, 1001)));
        dueThrow("change from one to itself", ARGUMENT, () -> run(() -> x.change(3, 3, 0)));
        x.on(0);
        x.job(5);
        due("change: 0 at first", x.changes(), 0);
        x.change(0, 5, 1000);
        x.on(0);
        x.job(5);
        due("change: from 0 to 5", x.changes(), 1000);
        x.job(0);
        due("change: not from 5 to 0", x.changes(), 0);
        x.change(0, 5, 7);
        x.job(5);
        due("change: anew", x.changes(), 7);
        x.on(0);
        x.change(0, 5, 0);
        x.job(5);
        due("change: no cost", x.changes(), 0);
    }

    private static void job() {
        PencilWorks x = new PencilWorks();
        dueThrow("job 6", INDEX, () -> x.job(6));
        dueThrow("job -1", INDEX, () -> x.job(-1));
        for (int i = 1; i <= 10; i++) {
            due("job: how many", x.job(i % 6), i);
        }
        due("job: the eleventh", x.job(0), -1);
        dueThrow("job: the eleventh, wrong", INDEX, () -> x.job(6));
        due("job: ten", x.count(8), 10);
        x.changes();
        due("job: anew", x.job(0), 1);
    }

    private static void on() {
        PencilWorks x = new PencilWorks();
        dueThrow("on 6", INDEX, () -> run(() -> x.on(6)));
        dueThrow("on -2", INDEX, () -> run(() -> x.on(-2)));
        x.on(5);
        due("on 5", x.count(9), 5);
        x.on(0);
        due("on 0", x.count(9), 0);
        dueThrow("on 7", INDEX, () -> run(() -> x.on(7)));
        due("on: as it was", x.count(9), 0);
        x.on(-1);
        due("on none", x.count(9), -1);
    }

    private static void jobs(PencilWorks x, int... colours) {
        for (int c : colours) {
            x.job(c);
        }
    }

    private static void setAllCosts(PencilWorks x, int cost) {
        for (int from = 0; from < 6; from++) {
            for (int to = 0; to < 6; to++) {
                if (from != to) {
                    x.change(from, to, cost);
                }
            }
        }
    }

    private static void changes() {
        PencilWorks x = new PencilWorks();
        x.on(3);
        due("changes without jobs", x.changes(), 0);
        due("changes: what was", x.count(9), 3);
        setAllCosts(x, 1000);
        x.on(-1);
        jobs(x, 0, 1, 2, 3, 4, 5, 0, 1, 2, 3);
        due("changes: five of six colours", x.changes(), 5000);
        due("changes: no jobs any more", x.count(8), 0);
        due("changes: the last", x.count(9), 5);
        jobs(x, 0, 1, 2, 3, 4, 0, 1, 2, 3, 4);
        due("changes: to the first one, too", x.changes(), 5000);
        due("changes: the last of five", x.count(9), 4);
        jobs(x, 4, 4);
        due("changes: the colour that is on", x.changes(), 0);
        jobs(x, 4, 1);
        due("changes: begins with what is on", x.changes(), 1000);
        due("changes: ends with the other", x.count(9), 1);
        // a way there and back is cheaper than a way on: 0, 1, 0, 2
        x.change(0, 1, 1);
        x.change(1, 0, 1);
        x.change(0, 2, 1);
        x.on(-1);
        jobs(x, 0, 0, 1, 2);
        due("changes: jobs of one colour apart", x.changes(), 2);
        due("changes: the last of those", x.count(9), 2);
        x.on(0);
        jobs(x, 0, 1, 2);
        due("changes: 0 is on, then 1, 0, 2", x.changes(), 3);
        due("changes: it ends with 2", x.count(9), 2);
    }

    private static void changesTies() {
        PencilWorks x = new PencilWorks();
        jobs(x, 5, 3, 4);
        due("ties: no costs", x.changes(), 0);
        due("ties: the greatest is last", x.count(9), 5);
        setAllCosts(x, 10);
        x.change(0, 2, 1);
        x.change(2, 1, 1);
        x.change(1, 0, 1);
        x.on(-1);
        jobs(x, 2, 1, 0);
        // 0 2 1, 1 0 2 and 2 1 0 cost 2 each
        due("ties: a ring", x.changes(), 2);
        due("ties: begins with the least", x.count(9), 1);
        jobs(x, 2, 0, 1);
        // 1 is on: 1 0 2
        due("ties: a ring from 1", x.changes(), 2);
        due("ties: ends with 2", x.count(9), 2);
    }

    private static void count() {
        PencilWorks x = sixLots();
        x.make(0, 2, 4, 7);
        x.make(1, 3, 5, 8);
        x.trial(0, true);
        x.trial(0, false);
        x.trial(1, false);
        x.undo(1);
        x.days(12);
        x.slats(1, 9);
        x.grade(1, 1, 1);
        x.job(3);
        x.job(4);
        x.on(2);
        int[] want = {12, 1, 6, 2, 15, 3, 9, 1, 2, 2};
        for (int what = 0; what < 10; what++) {
            due("count(" + what + ")", x.count(what), want[what]);
        }
        due("count(10)", x.count(10), -1);
        due("count(-1)", x.count(-1), -1);
        due("count of the greatest int", x.count(Integer.MAX_VALUE), -1);
        due("count of the least int", x.count(Integer.MIN_VALUE), -1);
    }
}
