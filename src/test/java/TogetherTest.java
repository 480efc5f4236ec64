/**
 * Promises together: what each call changes and what it leaves alone, runs in which one promise's call shows what
 * another's has changed (answers worked out by hand), and that the 512th call is answered as the first.
 */
public final class TogetherTest {
    public static void main(String[] args) {
        eachCallChangesItsOwn();
        askingChangesNothing();
        fromEarthsToCores();
        whatPencilsAreOf();
        knownOnEachDay();
        slatsAreNoLots();
        gradesComeAndGo();
        oneOrderAfterAnother();
        numbersGoOnBehindRefusals();
        theLastOf512Calls();
        theLinesOfTheReadme();
        Edges.end();
    }

    private static void eachCallChangesItsOwn() {
        Edges.sentence("each call changes what its promise tells, and nothing else");
        Edges.changesOnly(States::some, "EARTHS blends", 2, "earth", 150, 160, 2, 3);
        Edges.changesOnly(States::some, "blends", 16, "bring", 0, 1);
        Edges.changesOnly(States::some, "LOTS blends lots", 6, "cores", 0, 1000);
        Edges.changesOnly(States::some, "LOTS lots", 6, "lot", 1, 5);
        Edges.changesOnly(States::some, "LOTS lots", 6, "lot", 2, 0);
        Edges.changesOnly(States::some, "BATCHES pencils lots", 3, "make", 0, 2, 4, 1);
        Edges.changesOnly(States::some, "TRIALS lots known", 4, "trial", 1, 1);
        Edges.changesOnly(States::some, "TRIALS known", 4, "trial", 0, 1);
        Edges.changesOnly(States::some, "TRIALS known", 4, "trial", 0, 0);
        Edges.changesOnly(States::some, "lots known", 1, "undo", 0);
        Edges.changesOnly(States::some, "known", 1, "undo", 1);
        Edges.changesOnly(States::some, "TODAY", 107, "days", 100);
        Edges.changesOnly(States::some, "slats most", 31, "slats", 3, 21);
        Edges.changesOnly(States::some, "grades most", 2, "grade", 3, 40, 2);
        Edges.changesOnly(States::some, "grades most", 2, "ungrade");
        Edges.changesOnly(States::some, "changes", 0, "change", 3, 4, 9);
        Edges.changesOnly(States::some, "JOBS changes", 4, "job", 3);
        Edges.changesOnly(States::some, "COLOUR changes", 0, "on", 1);
        // the order 2 1 1 costs nothing and leaves 1 on, which a second call, without jobs, then answers as well
        Edges.changesOnly(States::some, "JOBS COLOUR", 0, "changes");
    }

    private static void askingChangesNothing() {
        Edges.sentence("what asks, answers NONE or asks for no change leaves all as it was");
        Edges.changesOnly(States::some, "", 20, "blend", 0, 1000);
        Edges.changesOnly(States::some, "", 5, "parts", 0, 1000, 1);
        Edges.changesOnly(States::some, "", 32, "look", 0, 1);
        Edges.changesOnly(States::some, "", 2, "explain", 7, 1);
        Edges.changesOnly(States::some, "", 850, "most");
        Edges.changesOnly(States::some, "", 7, "count", 0);
        Edges.changesOnly(States::some, "", 15, "bring", 0, 0);
        Edges.changesOnly(States::some, "", -1, "cores", 0, 99);
        Edges.changesOnly(States::some, "", -1, "make", 0, 2, 4, 33);
        Edges.changesOnly(States::some, "", 0, "undo", 3);
        Edges.changesOnly(States::some, "", 7, "days", 0);
        Edges.changesOnly(States::some, "", 30, "slats", 7, 10);
        Edges.changesOnly(States::some, "", 0, "change", 0, 1, 7);
        Edges.changesOnly(States::some, "", 0, "on", 0);
        Edges.changesOnly(States::fresh, "", 0, "ungrade");
        Edges.changesOnly(States::fresh, "", 0, "changes");
    }

    private static void dueAll(PencilWorks x, String name, int what, int... wants) {
        for (int i = 0; i < wants.length; i++) {
            Edges.due(x, wants[i], name, i, what);
        }
    }

    private static void dueExplain(PencilWorks x, int day, int fewest, int ways, int sure) {
        Edges.due(x, fewest, "explain", day, 0);
        Edges.due(x, ways, "explain", day, 1);
        Edges.due(x, sure, "explain", day, 2);
    }

    /** Three lots of cores, of all that the earths have: 190 to 218, 110 to 122 and 160 to 174. */
    private static PencilWorks threeCores() {
        PencilWorks x = new PencilWorks();
        Edges.due(x, 0, "earth", 100, 110, 3, 12);
        Edges.due(x, 1, "earth", 200, 230, 1, 9);
        Edges.due(x, 12, "blend", 0, 1000);
        Edges.due(x, 0, "cores", 0, 1000);
        Edges.due(x, 5, "bring", 1, 5);
        Edges.due(x, 1, "cores", 0, 122);
        Edges.due(x, 2, "earth", 150, 150, 2, 4);
        Edges.due(x, 2, "cores", 160, 174);
        return x;
    }

    private static void fromEarthsToCores() {
        Edges.sentence("earth, bring, blend, parts, cores and look, one behind the other");
        PencilWorks x = new PencilWorks();
        x.earth(100, 110, 3, 12);
        x.earth(200, 230, 1, 9);
        Edges.due(x, 12, "blend", 0, 1000);
        Edges.due(x, 1, "parts", 0, 1000, 0);
        Edges.due(x, 9, "parts", 0, 1000, 1);
        Edges.due(x, 0, "cores", 0, 1000);
        dueAll(x, "bring", 0, 11, 0);
        // what is left is earth 0 alone
        Edges.due(x, 30, "blend", 0, 1000);
        Edges.due(x, -1, "blend", 101, 1000);
        x.bring(1, 5);
        Edges.due(x, 20, "blend", 0, 1000);
        Edges.due(x, 20, "blend", 150, 170);
        Edges.due(x, -1, "blend", 151, 1000);
        // each part of earth 1 in place of one of earth 0 is 12 more of high
        Edges.due(x, 30, "blend", 0, 121);
        Edges.due(x, 28, "blend", 0, 122);
        Edges.due(x, 1, "cores", 0, 122);
        dueAll(x, "bring", 0, 2, 4);
        Edges.due(x, -1, "blend", 0, 1000);
        Edges.due(x, -1, "cores", 0, 1000);
        x.earth(150, 150, 2, 4);
        Edges.due(x, 18, "blend", 0, 1000);
        Edges.due(x, 18, "blend", 160, 174);
        Edges.due(x, -1, "blend", 161, 174);
        Edges.due(x, -1, "blend", 160, 173);
        Edges.due(x, 2, "cores", 160, 174);
        dueAll(x, "bring", 0, 0, 0, 0);
        dueAll(x, "look", 0, 0, 0, 0);
        dueAll(x, "look", 1, 40, 40, 40);
        // what comes behind does not change what cores are of
        x.bring(0, 1000);
        dueAll(x, "look", 3, 190, 110, 160);
        dueAll(x, "look", 4, 218, 122, 174);
    }

    /** Behind the cores slats as lot 3, lacquer as 4 and 5; batches of 0 3 4, of 1 3 5 and of 2 3 4. */
    private static PencilWorks threeBatches() {
        PencilWorks x = threeCores();
        Edges.due(x, 3, "lot", 1, 50);
        Edges.due(x, 4, "lot", 2, 45);
        Edges.due(x, 5, "lot", 2, 100);
        Edges.due(x, 0, "make", 0, 3, 4, 40);
        Edges.due(x, -1, "make", 1, 3, 4, 6);
        Edges.due(x, 1, "make", 1, 3, 5, 6);
        Edges.due(x, 2, "make", 2, 3, 4, 4);
        return x;
    }

    private static void whatPencilsAreOf() {
        Edges.sentence("used up piece by piece for pencils that keep what they are of");
        PencilWorks x = threeBatches();
        Edges.due(x, -1, "make", 1, 3, 5, 1);
        dueAll(x, "look", 1, 0, 34, 36, 0, 1, 94);
        dueAll(x, "look", 2, 40, 6, 4, 50, 44, 6);
        Edges.due(x, 3, "count", 3);
        Edges.due(x, 50, "count", 4);
        // lots 0 and 3 are used up, and are what batch 0 is of all the same
        x.trial(0, true);
        dueAll(x, "look", 5, 1, 0, 0, 1, 1, 0);
        dueExplain(x, 0, 1, 3, 0);
        x.trial(2, false);
        dueExplain(x, 0, 1, 1, 1);
        // a lot that comes later is of no batch
        Edges.due(x, 6, "lot", 1, 9);
        Edges.due(x, 3, "make", 1, 6, 5, 9);
        dueAll(x, "look", 5, 1, 0, 0, 1, 1, 0, 0);
        dueExplain(x, 0, 1, 1, 1);
        x.trial(3, true);
        dueAll(x, "look", 5, 1, 1, 0, 1, 1, 1, 1);
        // lot 0, and with it one of 1, 5 and 6
        dueExplain(x, 0, 2, 3, 1);
        x.trial(1, false);
        dueExplain(x, 0, 2, 1, 1 + 64);
    }

    private static void knownOnEachDay() {
        Edges.sentence("all that is known on a day, and nothing that held");
        PencilWorks x = threeBatches();
        Edges.due(x, 0, "trial", 0, 1);
        x.days(10);
        Edges.due(x, 1, "trial", 2, 1);
        dueExplain(x, 10, 1, 2, 0);
        dueAll(x, "look", 5, 1, 0, 1, 2, 2, 0);
        Edges.due(x, 2, "trial", 1, 0);
        dueExplain(x, 10, 1, 1, 16);
        x.days(5);
        Edges.due(x, 3, "trial", 1, 1);
        dueExplain(x, 15, -1, 0, 0);
        dueAll(x, "look", 5, 1, 1, 1, 3, 2, 1);
        x.days(5);
        Edges.due(x, 1, "undo", 2);
        dueExplain(x, 20, 1, 1, 8);
        x.days(1);
        Edges.due(x, 1, "undo", 0);
        dueExplain(x, 21, 1, 1, 8);
        dueAll(x, "look", 5, 0, 1, 1, 2, 1, 1);
        Edges.due(x, 1, "undo", 1);
        dueExplain(x, 21, 1, 3, 0);
        Edges.due(x, 1, "undo", 3);
        dueExplain(x, 21, 0, 1, 0);
        dueAll(x, "look", 5, 0, 0, 0, 0, 0, 0);
        // what was known on the days before stands
        dueExplain(x, 20, 1, 1, 8);
        dueExplain(x, 19, -1, 0, 0);
        dueExplain(x, 15, -1, 0, 0);
        dueExplain(x, 14, 1, 1, 16);
        dueExplain(x, 10, 1, 1, 16);
        dueExplain(x, 9, 1, 3, 0);
        dueExplain(x, 0, 1, 3, 0);
        dueExplain(x, -1, 0, 1, 0);
        Edges.due(x, 4, "count", 5);
    }

    private static void slatsAreNoLots() {
        Edges.sentence("SLATS by QUALITY are not the pieces of LOTS of slats");
        PencilWorks x = threeBatches();
        Edges.due(x, 0, "count", 6);
        Edges.due(x, 10, "slats", 3, 10);
        x.grade(3, 7, 4);
        Edges.due(x, 28, "most");
        Edges.due(x, 6, "lot", 1, 30);
        Edges.due(x, 3, "make", 1, 6, 5, 30);
        Edges.due(x, 10, "count", 6);
        Edges.due(x, 28, "most");
        Edges.due(x, 0, "slats", 3, 0);
        Edges.due(x, 30, "look", 6, 2);
    }

    private static void gradesComeAndGo() {
        Edges.sentence("slats, grade, ungrade and most, one behind the other");
        PencilWorks x = new PencilWorks();
        x.slats(2, 5);
        x.slats(6, 3);
        x.grade(6, 10, 2);
        Edges.due(x, 20, "most");
        // of the six others four at 4
        x.grade(0, 4, 4);
        Edges.due(x, 36, "most");
        // two of quality 2 at 11, and the two at 10 and four at 4 stay
        x.grade(1, 11, 2);
        Edges.due(x, 58, "most");
        // without quality 6: two at 11 and three at 4
        Edges.due(x, 5, "slats", 6, 0);
        Edges.due(x, 34, "most");
        Edges.due(x, 3, "ungrade");
        Edges.due(x, 0, "most");
        Edges.due(x, 0, "grade", 6, 1000, 500);
        Edges.due(x, 0, "most");
        Edges.due(x, 6, "slats", 9, 1);
        Edges.due(x, 1000, "most");
        Edges.due(x, 1, "grade", 2, 1, 500);
        Edges.due(x, 1005, "most");
    }

    private static void oneOrderAfterAnother() {
        Edges.sentence("change, job, on and changes, one behind the other");
        PencilWorks x = new PencilWorks();
        int[][] costs = {{0, 1, 5}, {1, 0, 2}, {1, 2, 4}, {2, 1, 1}, {0, 2, 9}, {2, 0, 7}};
        for (int[] c : costs) {
            x.change(c[0], c[1], c[2]);
        }
        // 2 1 0 costs 3, the five others 9 to 12
        dueOrder(x, 3, 0, 0, 1, 2);
        dueOrder(x, 9, 2, 2);
        dueOrder(x, 3, 0, 0, 1);
        dueOrder(x, 9, 2, 1, 2);
        x.on(PencilWorks.NONE);
        dueOrder(x, 1, 1, 1, 2);
        x.change(2, 1, 6);
        x.on(PencilWorks.NONE);
        dueOrder(x, 4, 2, 1, 2);
        dueOrder(x, 0, 2);
        x.on(1);
        dueOrder(x, 0, 1, 1, 1, 1);
        // a cost that changes when the jobs are there already
        x.job(0);
        x.change(1, 0, 8);
        dueOrder(x, 8, 0);
    }

    private static void dueOrder(PencilWorks x, int cost, int last, int... jobs) {
        for (int colour : jobs) {
            x.job(colour);
        }
        Edges.due(x, cost, "changes");
        Edges.due(x, last, "count", 9);
        Edges.due(x, 0, "count", 8);
    }

    private static void numbersGoOnBehindRefusals() {
        Edges.sentence("a call that throws changes nothing: the next one has the next number");
        PencilWorks x = new PencilWorks();
        Edges.dueThrow(x, Edges.ARGUMENT, "earth", 5, 4, 1, 1);
        Edges.due(x, 0, "earth", 50, 60, 2, 30);
        Edges.dueThrow(x, Edges.ARGUMENT, "bring", 0, 971);
        Edges.dueThrow(x, Edges.ARGUMENT, "cores", 60, 50);
        Edges.due(x, 0, "cores", 50, 60);
        Edges.dueThrow(x, Edges.ARGUMENT, "lot", 0, 5);
        Edges.due(x, 1, "lot", 1, 5);
        Edges.dueThrow(x, Edges.ARGUMENT, "lot", 2, 10001);
        Edges.due(x, 2, "lot", 2, 5);
        Edges.dueThrow(x, Edges.INDEX, "make", 0, 1, 3, 5);
        Edges.dueThrow(x, Edges.ARGUMENT, "make", 0, 2, 1, 5);
        Edges.due(x, 0, "make", 0, 1, 2, 5);
        Edges.dueThrow(x, Edges.INDEX, "trial", 1, 0);
        Edges.due(x, 0, "trial", 0, 1);
        Edges.dueThrow(x, Edges.INDEX, "undo", 1);
        Edges.dueThrow(x, Edges.ARGUMENT, "days", 101);
        Edges.dueThrow(x, Edges.NO_ELEMENT, "explain", 0, 3);
        dueExplain(x, 0, 1, 3, 0);
        Edges.dueThrow(x, Edges.ARGUMENT, "slats", 10, 5);
        Edges.due(x, 5, "slats", 9, 5);
        Edges.dueThrow(x, Edges.ARGUMENT, "grade", 0, 0, 5);
        Edges.due(x, 0, "grade", 0, 3, 5);
        Edges.due(x, 15, "most");
        Edges.dueThrow(x, Edges.INDEX, "job", 6);
        Edges.due(x, 1, "job", 5);
        Edges.dueThrow(x, Edges.ARGUMENT, "change", 5, 5, 1);
        Edges.dueThrow(x, Edges.INDEX, "on", 6);
        Edges.due(x, 0, "changes");
        int[] counts = {0, 1, 3, 1, 5, 1, 5, 1, 0, 5};
        for (int what = 0; what < counts.length; what++) {
            Edges.due(x, counts[what], "count", what);
        }
    }

    /** An object of States.some, for which 511 calls have been made: its 30, and 481 that ask. */
    private static PencilWorks usedFor511Calls() {
        PencilWorks x = States.some();
        for (int i = 0; i < 68; i++) {
            x.blend(i, 1000);
            x.parts(0, 1000 - i, i % 2);
            x.look(i % 6, i % 5);
            x.explain(i % 9, i % 3);
            x.most();
            x.count(i % 11);
            x.bring(i % 2, 0);
        }
        for (int i = 0; i < 5; i++) {
            x.days(0);
        }
        return x;
    }

    private static void theLastOf512Calls() {
        Edges.sentence("An object is used for at most 512 calls: the last one is answered as the first");
        Edges.due(usedFor511Calls(), 2, "earth", 0, 0, 1, 0);
        Edges.due(usedFor511Calls(), 16, "bring", 0, 1);
        Edges.due(usedFor511Calls(), 20, "blend", 0, 1000);
        Edges.due(usedFor511Calls(), 5, "parts", 0, 1000, 0);
        Edges.due(usedFor511Calls(), 6, "cores", 0, 1000);
        Edges.due(usedFor511Calls(), 6, "lot", 1, 0);
        Edges.due(usedFor511Calls(), 3, "make", 0, 2, 4, 32);
        Edges.due(usedFor511Calls(), 2, "look", 0, 5);
        Edges.due(usedFor511Calls(), 4, "trial", 2, 1);
        Edges.due(usedFor511Calls(), 1, "undo", 2);
        Edges.due(usedFor511Calls(), 57, "days", 50);
        Edges.due(usedFor511Calls(), 2, "explain", 7, 1);
        Edges.due(usedFor511Calls(), 10, "slats", 3, 0);
        Edges.due(usedFor511Calls(), 2, "grade", 0, 1, 0);
        Edges.due(usedFor511Calls(), 2, "ungrade");
        Edges.due(usedFor511Calls(), 850, "most");
        Edges.due(usedFor511Calls(), 0, "change", 0, 5, 1000);
        Edges.due(usedFor511Calls(), 4, "job", 5);
        Edges.due(usedFor511Calls(), 0, "on", 5);
        Edges.due(usedFor511Calls(), 0, "changes");
        Edges.due(usedFor511Calls(), 12, "count", 4);
    }

    private static void theLinesOfTheReadme() {
        Edges.sentence("README.md, Use");
        PencilWorks works = new PencilWorks();
        Edges.due(works, 0, "earth", 100, 110, 3, 20);
        Edges.due(works, 0, "cores", 0, 120);
        Edges.due(works, 1, "lot", 1, 100);
        Edges.due(works, 2, "lot", 2, 100);
        Edges.due(works, 0, "make", 0, 1, 2, 10);
        Edges.due(works, 0, "trial", 0, 1);
        Edges.due(works, 3, "explain", 0, 1);
        Edges.due(works, 20, "slats", 7, 20);
        Edges.due(works, 0, "grade", 5, 30, 15);
        Edges.due(works, 450, "most");
        works.change(0, 1, 8);
        Edges.due(works, 1, "job", 0);
        Edges.due(works, 2, "job", 1);
        Edges.due(works, 0, "changes");
        Edges.due(works, 0, "count", 9);
    }
}
