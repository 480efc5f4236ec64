/** The edges of the object as a whole: promises 1 and 22, and what the terms say of all calls. */
public final class WholeEdgesTest {
    public static void main(String[] args) {
        nothingAtAll();
        noSuchThingInANewObject();
        twoObjectsApart();
        countAnotherWhat();
        countFromNothingToAllPlaces();
        countTakenBackAndUsedUp();
        askingChangesNothing();
        allPlacesFull();
        fiveHundredAndTwelveCalls();
        Edges.end();
    }

    private static void nothingAtAll() {
        Edges.sentence("Nothing at all; TODAY is 0; no COLOUR is on the machine");
        for (int what = 0; what <= 8; what++) {
            Edges.due(new PencilWorks(), 0, "count", what);
        }
        Edges.due(new PencilWorks(), -1, "count", 9);
        Edges.due(new PencilWorks(), -1, "blend", 0, 1000);
        Edges.due(new PencilWorks(), -1, "cores", 0, 1000);
        Edges.due(new PencilWorks(), 0, "explain", 0, 0);
        Edges.due(new PencilWorks(), 1, "explain", 0, 1);
        Edges.due(new PencilWorks(), 0, "explain", 0, 2);
        Edges.due(new PencilWorks(), 0, "ungrade");
        Edges.due(new PencilWorks(), 0, "most");
        Edges.due(new PencilWorks(), 0, "changes");
        Edges.due(new PencilWorks(), PencilWorks.NONE, "count", 9);
    }

    private static void noSuchThingInANewObject() {
        Edges.sentence("IndexOutOfBoundsException: there is no such EARTH, LOT, BATCH, TRIAL, COLOUR");
        Edges.refused(States::fresh, Edges.INDEX, "bring", 0, 0);
        Edges.refused(States::fresh, Edges.INDEX, "parts", 0, 1000, 0);
        Edges.refused(States::fresh, Edges.INDEX, "make", 0, 0, 0, 1);
        Edges.refused(States::fresh, Edges.INDEX, "look", 0, 0);
        Edges.refused(States::fresh, Edges.INDEX, "trial", 0, 0);
        Edges.refused(States::fresh, Edges.INDEX, "undo", 0);
        Edges.refused(States::fresh, Edges.INDEX, "change", 0, 6, 0);
        Edges.refused(States::fresh, Edges.INDEX, "job", 6);
        Edges.refused(States::fresh, Edges.INDEX, "on", 6);
    }

    private static void twoObjectsApart() {
        Edges.sentence("PencilWorks(): a new object has nothing of another one");
        PencilWorks full = States.allFull();
        PencilWorks x = new PencilWorks();
        for (int what = 0; what <= 8; what++) {
            Edges.due(x, 0, "count", what);
        }
        Edges.due(x, -1, "count", 9);
        x.on(0);
        x.job(1);
        Edges.due(x, 0, "changes");
        Edges.due(full, 6, "count", 1);
        Edges.due(full, 10, "count", 8);
        Edges.due(full, 0, "count", 9);
    }

    private static void countAnotherWhat() {
        Edges.sentence("count: NONE for another what");
        for (int what : new int[] {Edges.LEAST_INT, -2, -1, 10, 11, 256, Edges.GREATEST_INT}) {
            Edges.dueWithoutTrace(States::fresh, -1, "count", what);
            Edges.dueWithoutTrace(States::some, -1, "count", what);
            Edges.dueWithoutTrace(States::allFull, -1, "count", what);
        }
    }

    private static void dueCounts(PencilWorks x, int... counts) {
        for (int what = 0; what <= 9; what++) {
            Edges.due(x, counts[what], "count", what);
        }
    }

    private static void countFromNothingToAllPlaces() {
        Edges.sentence("0 TODAY, 1 EARTHS, 2 LOTS, 3 BATCHES, 4 pencils, 5 TRIALS, 6 slats, 7 grades, 8 JOBS, 9 COLOUR");
        dueCounts(new PencilWorks(), 0, 0, 0, 0, 0, 0, 0, 0, 0, -1);
        dueCounts(States.some(), 7, 2, 6, 3, 12, 4, 30, 2, 3, 0);
        dueCounts(States.sixEarths(), 7, 6, 6, 3, 12, 4, 30, 2, 3, 0);
        dueCounts(States.twelveLots(), 7, 2, 12, 3, 12, 4, 30, 2, 3, 0);
        dueCounts(States.sixtyBatches(), 7, 2, 6, 60, 69, 4, 30, 2, 3, 0);
        dueCounts(States.hundredTrials(), 7, 2, 6, 3, 12, 100, 30, 2, 3, 0);
        dueCounts(States.sixGrades(), 7, 2, 6, 3, 12, 4, 30, 6, 3, 0);
        dueCounts(States.tenJobs(), 7, 2, 6, 3, 12, 4, 30, 2, 10, 0);
        dueCounts(States.lastDay(), 1000, 2, 6, 3, 12, 4, 30, 2, 3, 0);
        dueCounts(States.allFull(), 1000, 6, 12, 60, 69, 100, 30, 6, 10, 0);
    }

    private static void countTakenBackAndUsedUp() {
        Edges.sentence("count: what is used up or taken back keeps its number");
        PencilWorks x = States.lots(1, 1, 1);
        x.make(0, 1, 2, 40);
        x.trial(0, true);
        x.undo(0);
        Edges.due(x, 3, "count", 2);
        Edges.due(x, 1, "count", 5);
        Edges.due(x, 40, "count", 4);
        Edges.due(x, 1, "trial", 0, 0);
        PencilWorks y = States.oneEarth(10);
        y.cores(0, 1000);
        Edges.due(y, 1, "count", 1);
        Edges.due(y, 1, "earth", 0, 0, 1, 0);
    }

    private static void askingChangesNothing() {
        Edges.sentence("blend, parts, look, explain, most and count tell, and change nothing");
        Edges.dueWithoutTrace(States::some, 20, "blend", 0, 1000);
        Edges.dueWithoutTrace(States::some, 5, "parts", 0, 1000, 0);
        Edges.dueWithoutTrace(States::some, 8, "look", 0, 2);
        Edges.dueWithoutTrace(States::some, 2, "look", 0, 5);
        Edges.dueWithoutTrace(States::some, 1, "explain", 7, 0);
        Edges.dueWithoutTrace(States::some, 850, "most");
        Edges.dueWithoutTrace(States::some, 12, "count", 4);
    }

    private static void allPlacesFull() {
        Edges.sentence("all places full at once: each call that asks for one more is refused, or answers NONE");
        Edges.refused(States::allFull, Edges.UNSUPPORTED, "earth", 0, 0, 1, 1);
        Edges.refused(States::allFull, Edges.UNSUPPORTED, "lot", 1, 1);
        Edges.dueWithoutTrace(States::allFull, -1, "cores", 0, 1000);
        Edges.dueWithoutTrace(States::allFull, -1, "make", 0, 2, 4, 1);
        Edges.dueWithoutTrace(States::allFull, -1, "trial", 0, 1);
        Edges.dueWithoutTrace(States::allFull, 1000, "days", 100);
        Edges.dueWithoutTrace(States::allFull, -1, "grade", 0, 1, 1);
        Edges.dueWithoutTrace(States::allFull, -1, "job", 0);
    }

    private static void fiveHundredAndTwelveCalls() {
        Edges.sentence("An object is used for at most 512 calls after it has been made");
        PencilWorks x = new PencilWorks();
        x.on(0);
        x.change(0, 1, 7);
        // 2 calls before these 127 times 4, and 2 behind them
        for (int round = 0; round < 127; round++) {
            Edges.due(x, 1, "job", 0);
            Edges.due(x, 2, "job", 1);
            Edges.due(x, 7, "changes");
            x.on(0);
        }
        Edges.due(x, 1, "job", 1);
        Edges.due(x, 7, "changes");
    }
}
