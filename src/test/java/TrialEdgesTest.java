/** The edges of trials, days and explaining: promises 10 to 13, and the terms' third part. One test for each sentence. */
public final class TrialEdgesTest {
    public static void main(String[] args) {
        hundredTrialsAtMost();
        trialNoSuchBatch();
        undoNoSuchTrial();
        undoWhetherItWasNot();
        takenBackFromThatDayOn();
        todayFrom0To1000();
        daysFrom0To100();
        toldToday();
        explainAnotherWhat();
        explainAnyDay();
        explainWithNothingToExplain();
        eachBatchThatBrokeHasALot();
        noBatchThatHeldHasOne();
        fewestNone();
        fewestIsLeast();
        waysAreCounted();
        sureIsInAll();
        theSixtiethBatch();
        theTwelfthLot();
        Edges.end();
    }

    private static void dueExplain(PencilWorks x, int day, int fewest, int ways, int sure) {
        Edges.due(x, fewest, "explain", day, 0);
        Edges.due(x, ways, "explain", day, 1);
        Edges.due(x, sure, "explain", day, 2);
    }

    private static int bits(int... lots) {
        int bits = 0;
        for (int lot : lots) {
            bits |= 1 << lot;
        }
        return bits;
    }

    /** One batch of lots 0 to 2. */
    private static PencilWorks oneBatch() {
        PencilWorks x = States.lots(1, 1, 1);
        x.make(0, 1, 2, 1);
        return x;
    }

    private static PencilWorks oneBatchThatHeldAHundredTimes() {
        PencilWorks x = oneBatch();
        for (int i = 0; i < 100; i++) {
            x.trial(0, false);
        }
        return x;
    }

    private static void hundredTrialsAtMost() {
        Edges.sentence("TRIALS (at most 100, numbered from 0 on); NONE, and it is not told, if there are 100");
        PencilWorks x = oneBatch();
        for (int i = 0; i < 100; i++) {
            Edges.due(x, i, "trial", 0, i % 2);
            Edges.due(x, i + 1, "count", 5);
        }
        Edges.due(x, -1, "trial", 0, 0);
        Edges.dueWithoutTrace(TrialEdgesTest::oneBatchThatHeldAHundredTimes, -1, "trial", 0, 1);
        Edges.dueWithoutTrace(States::hundredTrials, -1, "trial", 0, 0);
        Edges.dueWithoutTrace(States::hundredTrials, -1, "trial", 1, 1);
        Edges.dueWithoutTrace(States::allFull, -1, "trial", 59, 1);
        // one that is taken back keeps its number, and leaves no place
        PencilWorks y = oneBatchThatHeldAHundredTimes();
        y.undo(99);
        Edges.due(y, -1, "trial", 0, 1);
        Edges.due(y, 100, "count", 5);
    }

    private static void trialNoSuchBatch() {
        Edges.sentence("trial: there is no such BATCH");
        Edges.refused(States::fresh, Edges.INDEX, "trial", 0, 1);
        Edges.refused(() -> States.lots(1, 1, 1), Edges.INDEX, "trial", 0, 0);
        for (int broke = 0; broke <= 1; broke++) {
            Edges.span(States::some, Edges.INDEX, 0, Edges.from(0, 2), "trial", 0, broke);
            Edges.span(States::sixtyBatches, Edges.INDEX, 0, Edges.from(0, 59), "trial", 0, broke);
        }
        Edges.refused(States::hundredTrials, Edges.INDEX, "trial", 3, 1);
        Edges.refused(States::allFull, Edges.INDEX, "trial", 60, 1);
        Edges.refused(States::hundredTrials, Edges.INDEX, "trial", -1, 0);
    }

    private static void undoNoSuchTrial() {
        Edges.sentence("undo: there is no such TRIAL");
        Edges.refused(States::fresh, Edges.INDEX, "undo", 0);
        Edges.refused(TrialEdgesTest::oneBatch, Edges.INDEX, "undo", 0);
        Edges.span(States::some, Edges.INDEX, 0, Edges.from(0, 3), "undo", 0);
        Edges.span(States::hundredTrials, Edges.INDEX, 0, Edges.from(0, 99), "undo", 0);
        Edges.due(States.hundredTrials(), 1, "undo", 99);
    }

    private static void undoWhetherItWasNot() {
        Edges.sentence("A TRIAL is taken back TODAY: whether it was not");
        PencilWorks x = States.some();
        Edges.due(x, 1, "undo", 0);
        Edges.due(x, 0, "undo", 0);
        Edges.dueWithoutTrace(States::some, 0, "undo", 3);
        // taken back a second time, on a later day: the first day stands
        PencilWorks y = oneBatch();
        y.trial(0, true);
        y.days(3);
        Edges.due(y, 1, "undo", 0);
        y.days(3);
        Edges.due(y, 0, "undo", 0);
        dueExplain(y, 2, 1, 3, 0);
        dueExplain(y, 3, 0, 1, 0);
        dueExplain(y, 5, 0, 1, 0);
        // taken back on day 0, the day it was told
        PencilWorks z = oneBatch();
        z.trial(0, true);
        Edges.due(z, 1, "undo", 0);
        Edges.due(z, 0, "undo", 0);
        dueExplain(z, 0, 0, 1, 0);
        z.days(1);
        Edges.due(z, 0, "undo", 0);
    }

    private static void takenBackFromThatDayOn() {
        Edges.sentence("a TRIAL may be taken back (not known from that day on)");
        PencilWorks x = oneBatch();
        x.days(10);
        x.trial(0, true);
        x.days(1);
        x.undo(0);
        dueExplain(x, 9, 0, 1, 0);
        dueExplain(x, 10, 1, 3, 0);
        dueExplain(x, 11, 0, 1, 0);
        dueExplain(x, 1000, 0, 1, 0);
        // told and taken back on one day
        PencilWorks y = oneBatch();
        y.days(10);
        y.trial(0, true);
        y.undo(0);
        for (int day = 9; day <= 11; day++) {
            dueExplain(y, day, 0, 1, 0);
        }
        // one that held, likewise
        PencilWorks z = oneBatch();
        z.trial(0, true);
        z.trial(0, false);
        z.days(1);
        z.undo(1);
        dueExplain(z, 0, -1, 0, 0);
        dueExplain(z, 1, 1, 3, 0);
        // on the last day
        PencilWorks last = States.lastDay();
        last.trial(1, true);
        dueExplain(last, 1000, -1, 0, 0);
        last.undo(4);
        dueExplain(last, 1000, 1, 2, 0);
        dueExplain(last, 999, 1, 2, 0);
    }

    private static void todayFrom0To1000() {
        Edges.sentence("TODAY (0 at first, 1000 at last); so many days, as far as TODAY may go");
        Edges.due(new PencilWorks(), 0, "count", 0);
        Edges.due(new PencilWorks(), 0, "days", 0);
        PencilWorks x = new PencilWorks();
        for (int i = 1; i <= 9; i++) {
            Edges.due(x, 100 * i, "days", 100);
        }
        Edges.due(x, 999, "days", 99);
        Edges.due(x, 1000, "days", 1);
        Edges.due(x, 1000, "days", 1);
        Edges.due(x, 1000, "days", 0);
        Edges.due(x, 1000, "count", 0);
        PencilWorks y = new PencilWorks();
        y.days(99);
        for (int i = 1; i <= 9; i++) {
            Edges.due(y, 99 + 100 * i, "days", 100);
        }
        Edges.due(y, 1000, "days", 2);
        PencilWorks z = new PencilWorks();
        z.days(1);
        for (int i = 1; i <= 9; i++) {
            z.days(100);
        }
        Edges.due(z, 1000, "days", 100);
        Edges.dueWithoutTrace(States::lastDay, 1000, "days", 0);
        Edges.dueWithoutTrace(States::lastDay, 1000, "days", 1);
        Edges.dueWithoutTrace(States::lastDay, 1000, "days", 100);
    }

    private static void daysFrom0To100() {
        Edges.sentence("days: IllegalArgumentException: not 0 to 100");
        Edges.span(States::some, Edges.ARGUMENT, 0, Edges.from(0, 100), "days", 0);
        Edges.span(States::lastDay, Edges.ARGUMENT, 0, Edges.from(0, 100), "days", 0);
        Edges.due(States.some(), 107, "days", 100);
        Edges.due(States.some(), 8, "days", 1);
        Edges.dueWithoutTrace(States::some, 7, "days", 0);
    }

    private static void toldToday() {
        Edges.sentence("it broke, or it held; told TODAY");
        PencilWorks x = oneBatch();
        x.days(1);
        x.trial(0, true);
        dueExplain(x, 0, 0, 1, 0);
        dueExplain(x, 1, 1, 3, 0);
        x.days(1);
        x.trial(0, false);
        dueExplain(x, 1, 1, 3, 0);
        dueExplain(x, 2, -1, 0, 0);
        PencilWorks first = oneBatch();
        first.trial(0, true);
        dueExplain(first, -1, 0, 1, 0);
        dueExplain(first, 0, 1, 3, 0);
    }

    private static void explainAnotherWhat() {
        Edges.sentence("explain: NoSuchElementException: another what");
        Edges.span(States::some, Edges.NO_ELEMENT, 1, Edges.from(0, 2), "explain", 7, 0);
        Edges.span(States::fresh, Edges.NO_ELEMENT, 1, Edges.from(0, 2), "explain", 0, 0);
        Edges.refused(States::some, Edges.NO_ELEMENT, "explain", -1, 3);
        Edges.refused(States::some, Edges.NO_ELEMENT, "explain", Edges.GREATEST_INT, -1);
        Edges.dueWithoutTrace(States::some, 1, "explain", 7, 0);
        Edges.dueWithoutTrace(States::some, 2, "explain", 7, 1);
        Edges.dueWithoutTrace(States::some, 0, "explain", 7, 2);
    }

    private static void explainAnyDay() {
        Edges.sentence("As known on a day");
        PencilWorks x = oneBatch();
        x.trial(0, true);
        for (int before : new int[] {Edges.LEAST_INT, -1000, -1}) {
            dueExplain(x, before, 0, 1, 0);
        }
        for (int behind : new int[] {0, 1, 1000, 1001, Edges.GREATEST_INT}) {
            dueExplain(x, behind, 1, 3, 0);
        }
        // what is told later does not change what was known
        x.days(100);
        x.trial(0, false);
        dueExplain(x, 99, 1, 3, 0);
        dueExplain(x, 100, -1, 0, 0);
        dueExplain(x, Edges.GREATEST_INT, -1, 0, 0);
        dueExplain(x, Edges.LEAST_INT, 0, 1, 0);
    }

    private static void explainWithNothingToExplain() {
        Edges.sentence("a set of LOTS EXPLAINS: the empty one, where nothing broke");
        dueExplain(new PencilWorks(), 0, 0, 1, 0);
        dueExplain(States.lots(4, 4, 4), 0, 0, 1, 0);
        dueExplain(oneBatch(), 0, 0, 1, 0);
        PencilWorks held = oneBatch();
        held.trial(0, false);
        dueExplain(held, 0, 0, 1, 0);
        held.trial(0, true);
        held.undo(1);
        dueExplain(held, 0, 0, 1, 0);
    }

    private static void eachBatchThatBrokeHasALot() {
        Edges.sentence("if each BATCH of which a pencil broke has a LOT of the set");
        PencilWorks x = States.lots(2, 2, 2);
        x.make(0, 2, 4, 1);
        x.make(1, 3, 5, 1);
        x.trial(0, true);
        dueExplain(x, 0, 1, 3, 0);
        x.trial(1, true);
        // no lot is in both: one of each
        dueExplain(x, 0, 2, 9, 0);
        x.make(0, 3, 5, 1);
        x.trial(2, true);
        // with 0 any of 1, 3, 5; without it 3 or 5, and then 2 or 4
        dueExplain(x, 0, 2, 7, 0);
        // a batch that is not tried asks for nothing
        x.make(1, 2, 4, 1);
        dueExplain(x, 0, 2, 7, 0);
    }

    private static void noBatchThatHeldHasOne() {
        Edges.sentence("and no BATCH of which one held has one");
        PencilWorks x = States.lots(2, 2, 2);
        x.make(0, 2, 4, 1);
        x.make(1, 2, 4, 1);
        x.make(0, 3, 4, 1);
        x.make(0, 2, 5, 1);
        x.trial(0, true);
        x.trial(1, false);
        dueExplain(x, 0, 1, 1, bits(0));
        x.undo(1);
        x.trial(2, false);
        dueExplain(x, 0, 1, 1, bits(2));
        x.undo(2);
        x.trial(3, false);
        dueExplain(x, 0, 1, 1, bits(4));
        // once held is enough, however often it broke
        PencilWorks y = oneBatch();
        for (int i = 0; i < 99; i++) {
            y.trial(0, true);
        }
        dueExplain(y, 0, 1, 3, 0);
        y.trial(0, false);
        dueExplain(y, 0, -1, 0, 0);
    }

    private static void fewestNone() {
        Edges.sentence("FEWEST none, if there is none (NONE); WAYS (0); SURE (0 without a set)");
        PencilWorks x = oneBatch();
        x.trial(0, true);
        x.trial(0, false);
        dueExplain(x, 0, -1, 0, 0);
        // each lot of the batch that broke is in another one that held
        PencilWorks y = States.lots(2, 2, 2);
        y.make(0, 2, 4, 1);
        y.make(0, 3, 5, 1);
        y.make(1, 2, 5, 1);
        y.make(1, 3, 4, 1);
        y.trial(0, true);
        y.trial(1, false);
        y.trial(2, false);
        dueExplain(y, 0, 1, 1, bits(4));
        y.trial(3, false);
        dueExplain(y, 0, -1, 0, 0);
        // one batch can be explained, the other can't: there is no set
        PencilWorks z = States.lots(2, 2, 2);
        z.make(0, 2, 4, 1);
        z.make(1, 3, 5, 1);
        z.trial(0, true);
        z.trial(1, true);
        z.trial(1, false);
        dueExplain(z, 0, -1, 0, 0);
        z.undo(1);
        dueExplain(z, 0, 1, 3, 0);
        // and in the other order of batches
        PencilWorks w = States.lots(2, 2, 2);
        w.make(1, 3, 5, 1);
        w.make(0, 2, 4, 1);
        w.trial(0, true);
        w.trial(0, false);
        w.trial(1, true);
        dueExplain(w, 0, -1, 0, 0);
    }

    private static void fewestIsLeast() {
        Edges.sentence("FEWEST: the least number of LOTS of such a set");
        // 2 explains both, though each lot before it explains but one
        PencilWorks x = States.lots(2, 1, 2);
        x.make(0, 2, 3, 1);
        x.make(1, 2, 4, 1);
        x.trial(0, true);
        x.trial(1, true);
        dueExplain(x, 0, 1, 1, bits(2));
        // the most there can be: one of each kind held, and each of the nine others is alone with two of those
        PencilWorks nine = States.lots(4, 4, 4);
        nine.make(0, 4, 8, 1);
        nine.trial(0, false);
        for (int i = 1; i <= 3; i++) {
            nine.trial(nine.make(i, 4, 8, 1), true);
            nine.trial(nine.make(0, 4 + i, 8, 1), true);
            nine.trial(nine.make(0, 4, 8 + i, 1), true);
        }
        dueExplain(nine, 0, 9, 1, bits(1, 2, 3, 5, 6, 7, 9, 10, 11));
        // with nothing that held, any two of those three explain all
        nine.undo(0);
        dueExplain(nine, 0, 2, 3, 0);
    }

    private static void waysAreCounted() {
        Edges.sentence("WAYS: how many sets of that number EXPLAIN");
        PencilWorks x = States.lots(4, 4, 4);
        int ways = 1;
        for (int i = 0; i < 4; i++) {
            x.make(i, 4 + i, 8 + i, 1);
            x.trial(i, true);
            ways *= 3;
            dueExplain(x, 0, i + 1, ways, 0);
        }
        // 2, 5 and 6 are good; 0 or 3, 0 or 4, and 1 or 3: that is 0 with 1, 0 with 3, or 3 with 4
        PencilWorks y = States.lots(3, 3, 1);
        y.trial(y.make(2, 5, 6, 1), false);
        y.trial(y.make(0, 3, 6, 1), true);
        y.trial(y.make(0, 4, 6, 1), true);
        y.trial(y.make(1, 3, 6, 1), true);
        dueExplain(y, 0, 2, 3, 0);
    }

    private static void sureIsInAll() {
        Edges.sentence("SURE: the LOTS that are in all of these, as bits");
        PencilWorks x = States.lots(3, 3, 1);
        // 0, 3 and 6 are good; what is left is 1, then 1 or 4, and 2 or 5
        x.make(0, 3, 6, 1);
        x.trial(0, false);
        x.make(1, 3, 6, 1);
        x.make(1, 4, 6, 1);
        x.make(2, 5, 6, 1);
        x.trial(1, true);
        dueExplain(x, 0, 1, 1, bits(1));
        x.trial(3, true);
        dueExplain(x, 0, 2, 2, bits(1));
        x.trial(2, true);
        dueExplain(x, 0, 2, 2, bits(1));
        PencilWorks y = oneBatch();
        y.trial(0, true);
        dueExplain(y, 0, 1, 3, 0);
    }

    private static void theSixtiethBatch() {
        Edges.sentence("BATCHES (at most 60): the last one counts as the first");
        for (int batch : new int[] {0, 30, 31, 32, 33, 58, 59}) {
            PencilWorks x = States.lots(3, 2, 2);
            for (int i = 0; i < 60; i++) {
                x.make(i == batch ? 2 : i % 2, i == batch ? 3 : 4, i == batch ? 5 : 6, 1);
            }
            x.trial(batch, true);
            dueExplain(x, 0, 1, 3, 0);
            Edges.due(x, 1, "look", 2, 5);
            Edges.due(x, 1, "look", 3, 5);
            Edges.due(x, 0, "look", 0, 5);
            Edges.due(x, 0, "look", 4, 5);
            x.trial(batch, false);
            dueExplain(x, 0, -1, 0, 0);
            x.undo(0);
            dueExplain(x, 0, 0, 1, 0);
            Edges.due(x, 0, "look", 2, 5);
        }
    }

    private static void theTwelfthLot() {
        Edges.sentence("LOTS (at most 12): the last one is bit 11, the first one bit 0");
        PencilWorks x = States.lots(2, 2, 8);
        x.make(0, 2, 11, 1);
        x.make(0, 2, 4, 1);
        x.trial(0, true);
        x.trial(1, false);
        dueExplain(x, 0, 1, 1, 2048);
        PencilWorks y = States.lots(2, 2, 8);
        y.make(0, 2, 11, 1);
        y.make(1, 2, 11, 1);
        y.trial(0, true);
        y.trial(1, false);
        dueExplain(y, 0, 1, 1, 1);
    }
}
