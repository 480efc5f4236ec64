/** The edges of lots and batches: promises 7 to 9, and the terms' second part. One test for each sentence. */
public final class LotEdgesTest {
    public static void main(String[] args) {
        twelveLotsAtMost();
        lotWrongAndTheThirteenth();
        kind1Or2();
        piecesFrom0To10000();
        sixtyBatchesAtMost();
        pencilsFrom1To1000();
        piecesAreUsedUp();
        makeNoSuchLot();
        makeOfAnotherKind();
        makeTooFewPieces();
        makeIndexFirst();
        makeWrongBeforeNone();
        lookNoSuchLot();
        lookAnotherWhat();
        lookAtPieces();
        lookAtPencils();
        lookAtLowAndHigh();
        lookAtBatchesThatBroke();
        lookAsKnownToday();
        Edges.end();
    }

    private static void twelveLotsAtMost() {
        Edges.sentence("LOTS (at most 12, numbered from 0 on); UnsupportedOperationException: there are 12");
        PencilWorks x = new PencilWorks();
        for (int i = 0; i < 12; i++) {
            Edges.due(x, i, "lot", 1 + i % 2, i);
            Edges.due(x, i + 1, "count", 2);
        }
        // cores are among the twelve, and are numbered with the others
        PencilWorks y = States.lots(5, 6, 0);
        Edges.due(y, 11, "lot", 2, 3);
        Edges.refused(() -> States.lots(12, 0, 0), Edges.UNSUPPORTED, "lot", 1, 0);
        Edges.refused(States::twelveLots, Edges.UNSUPPORTED, "lot", 1, 0);
        Edges.refused(States::twelveLots, Edges.UNSUPPORTED, "lot", 2, 10000);
        Edges.refused(States::allFull, Edges.UNSUPPORTED, "lot", 1, 1);
    }

    private static void lotWrongAndTheThirteenth() {
        Edges.sentence("lot: of several exceptions the one told first");
        Edges.refused(States::twelveLots, Edges.ARGUMENT, "lot", 0, 5);
        Edges.refused(States::twelveLots, Edges.ARGUMENT, "lot", 3, 5);
        Edges.refused(States::twelveLots, Edges.ARGUMENT, "lot", 1, -1);
        Edges.refused(States::twelveLots, Edges.ARGUMENT, "lot", 2, 10001);
    }

    private static void kind1Or2() {
        Edges.sentence("A LOT of KIND 1 or 2; IllegalArgumentException: KIND is none");
        Edges.span(States::some, Edges.ARGUMENT, 0, Edges.from(1, 2), "lot", 1, 5);
        Edges.span(States::fresh, Edges.ARGUMENT, 0, Edges.from(1, 2), "lot", 1, 5);
        PencilWorks x = new PencilWorks();
        x.lot(1, 5);
        x.lot(2, 5);
        Edges.due(x, 1, "look", 0, 0);
        Edges.due(x, 2, "look", 1, 0);
    }

    private static void piecesFrom0To10000() {
        Edges.sentence("so many pieces (0 to 10000)");
        Edges.span(States::some, Edges.ARGUMENT, 1, Edges.from(0, 10000), "lot", 1, 0);
        Edges.span(States::some, Edges.ARGUMENT, 1, Edges.from(0, 10000), "lot", 2, 0);
        PencilWorks x = new PencilWorks();
        x.lot(1, 0);
        x.lot(1, 10000);
        x.lot(2, 0);
        x.lot(2, 10000);
        Edges.due(x, 0, "look", 0, 1);
        Edges.due(x, 10000, "look", 1, 1);
        Edges.due(x, 0, "look", 2, 1);
        Edges.due(x, 10000, "look", 3, 1);
    }

    private static void sixtyBatchesAtMost() {
        Edges.sentence("BATCHES (at most 60, numbered from 0 on); NONE, and nothing happens, if there are 60");
        PencilWorks x = States.lots(2, 1, 1);
        for (int i = 0; i < 60; i++) {
            Edges.due(x, i, "make", i % 2, 2, 3, 1);
            Edges.due(x, i + 1, "count", 3);
        }
        Edges.due(x, -1, "make", 0, 2, 3, 1);
        Edges.due(x, 10, "look", 0, 1);
        Edges.due(x, 940, "look", 2, 1);
        Edges.due(x, 60, "count", 4);
        Edges.dueWithoutTrace(States::sixtyBatches, -1, "make", 0, 2, 4, 1);
        Edges.dueWithoutTrace(States::sixtyBatches, -1, "make", 1, 3, 5, 1);
        Edges.dueWithoutTrace(States::sixtyBatches, -1, "make", 0, 2, 4, 1000);
        Edges.dueWithoutTrace(States::allFull, -1, "make", 1, 2, 4, 1);
    }

    private static void pencilsFrom1To1000() {
        Edges.sentence("n pencils (1 to 1000); IllegalArgumentException: n is none");
        Edges.span(States::some, Edges.ARGUMENT, 3, Edges.from(1, 1000), "make", 0, 2, 4, 1);
        Edges.due(States.some(), 3, "make", 0, 2, 4, 1);
        // no lot of cores ever has more than 40 pieces, so a thousand is a number, but never made
        Edges.dueWithoutTrace(States::some, -1, "make", 0, 2, 4, 1000);
        Edges.dueWithoutTrace(() -> States.lots(1, 1, 1), -1, "make", 0, 1, 2, 1000);
        Edges.refused(() -> States.lots(1, 1, 1), Edges.ARGUMENT, "make", 0, 1, 2, 1001);
        Edges.refused(() -> States.lots(1, 1, 1), Edges.ARGUMENT, "make", 0, 1, 2, -40);
    }

    private static void piecesAreUsedUp() {
        Edges.sentence("n pieces of each are used up");
        PencilWorks x = States.lots(1, 1, 1);
        Edges.due(x, 0, "make", 0, 1, 2, 39);
        Edges.due(x, 1, "look", 0, 1);
        Edges.due(x, 961, "look", 1, 1);
        Edges.due(x, 961, "look", 2, 1);
        Edges.due(x, 1, "make", 0, 1, 2, 1);
        Edges.due(x, 0, "look", 0, 1);
        Edges.due(x, 960, "look", 1, 1);
        Edges.due(x, 960, "look", 2, 1);
        Edges.due(x, 40, "count", 4);
        // only the lots that are used
        PencilWorks y = States.lots(2, 2, 2);
        y.make(1, 2, 5, 40);
        int[] left = {40, 0, 960, 1000, 1000, 960};
        for (int lot = 0; lot < 6; lot++) {
            Edges.due(y, left[lot], "look", lot, 1);
        }
    }

    private static void makeNoSuchLot() {
        Edges.sentence("make: there is no such LOT");
        Edges.refused(States::fresh, Edges.INDEX, "make", 0, 0, 0, 1);
        for (int place = 0; place < 3; place++) {
            for (int lot : new int[] {Edges.LEAST_INT, -1, 6, 12, Edges.GREATEST_INT}) {
                int[] args = {0, 2, 4, 1};
                args[place] = lot;
                Edges.refused(States::some, Edges.INDEX, "make", args);
            }
            int[] args = {0, 2, 4, 1};
            args[place] = 12;
            Edges.refused(States::twelveLots, Edges.INDEX, "make", args);
        }
        Edges.due(States.lots(1, 1, 10), 0, "make", 0, 1, 11, 1);
        Edges.due(States.lots(1, 10, 1), 0, "make", 0, 10, 11, 1);
    }

    private static void makeOfAnotherKind() {
        Edges.sentence("make: IllegalArgumentException: a LOT is of another KIND");
        for (int core = 0; core < 6; core += 2) {
            for (int slat = 0; slat < 6; slat += 2) {
                for (int lacquer = 0; lacquer < 6; lacquer += 2) {
                    if (core == 0 && slat == 2 && lacquer == 4) {
                        Edges.due(States.some(), 3, "make", core, slat, lacquer, 1);
                    } else {
                        Edges.refused(States::some, Edges.ARGUMENT, "make", core, slat, lacquer, 1);
                    }
                }
            }
        }
    }

    /** Lots 0 to 2 have enough for all; 3, 4 and 5, of cores, slats and lacquer, have 7 pieces left. */
    private static PencilWorks sevenPieces() {
        PencilWorks x = States.oneEarth(100);
        x.cores(0, 1000);
        x.lot(1, 1000);
        x.lot(2, 1000);
        x.cores(0, 1000);
        x.lot(1, 7);
        x.lot(2, 7);
        x.make(3, 1, 2, 33);
        return x;
    }

    private static void makeTooFewPieces() {
        Edges.sentence("make: NONE, and nothing happens, if a LOT has not so many pieces");
        int[][] lotsWithOneOfSeven = {{3, 1, 2}, {0, 4, 2}, {0, 1, 5}, {3, 4, 5}};
        for (int[] l : lotsWithOneOfSeven) {
            Edges.dueWithoutTrace(LotEdgesTest::sevenPieces, -1, "make", l[0], l[1], l[2], 8);
            PencilWorks x = sevenPieces();
            Edges.due(x, 1, "make", l[0], l[1], l[2], 7);
            Edges.due(x, -1, "make", l[0], l[1], l[2], 1);
            Edges.due(x, 40, "count", 4);
            Edges.due(x, 2, "count", 3);
        }
        Edges.dueWithoutTrace(LotEdgesTest::sevenPieces, -1, "make", 0, 1, 2, 41);
        Edges.due(sevenPieces(), 1, "make", 0, 1, 2, 40);
        PencilWorks none = States.lots(1, 0, 0);
        none.lot(1, 0);
        none.lot(2, 0);
        Edges.due(none, -1, "make", 0, 1, 2, 1);
        Edges.due(none, 40, "look", 0, 1);
    }

    private static void makeIndexFirst() {
        Edges.sentence("make: of several exceptions the one told first");
        Edges.refused(States::some, Edges.INDEX, "make", 6, 2, 4, 0);
        Edges.refused(States::some, Edges.INDEX, "make", 0, -1, 4, 1001);
        Edges.refused(States::some, Edges.INDEX, "make", 0, 2, 6, Edges.LEAST_INT);
        Edges.refused(States::some, Edges.INDEX, "make", 2, 2, 6, 1);
        Edges.refused(States::some, Edges.INDEX, "make", 4, 6, 4, 1);
        Edges.refused(States::some, Edges.INDEX, "make", -1, 0, 0, 1);
    }

    private static void makeWrongBeforeNone() {
        Edges.sentence("make: a wrong call throws, and does not answer NONE");
        Edges.refused(States::sixtyBatches, Edges.INDEX, "make", 6, 2, 4, 1);
        Edges.refused(States::sixtyBatches, Edges.ARGUMENT, "make", 0, 2, 4, 0);
        Edges.refused(States::sixtyBatches, Edges.ARGUMENT, "make", 0, 2, 3, 1);
        Edges.refused(LotEdgesTest::sevenPieces, Edges.INDEX, "make", 3, 4, 6, 8);
        Edges.refused(LotEdgesTest::sevenPieces, Edges.ARGUMENT, "make", 3, 4, 5, 1001);
        Edges.refused(LotEdgesTest::sevenPieces, Edges.ARGUMENT, "make", 3, 4, 4, 8);
    }

    private static void lookNoSuchLot() {
        Edges.sentence("look: there is no such LOT; of several exceptions the one told first");
        Edges.refused(States::fresh, Edges.INDEX, "look", 0, 0);
        Edges.span(States::some, Edges.INDEX, 0, Edges.from(0, 5), "look", 0, 0);
        Edges.span(States::twelveLots, Edges.INDEX, 0, Edges.from(0, 11), "look", 0, 5);
        Edges.refused(States::some, Edges.INDEX, "look", 6, 6);
        Edges.refused(States::some, Edges.INDEX, "look", -1, -1);
        Edges.refused(States::fresh, Edges.INDEX, "look", 0, Edges.GREATEST_INT);
    }

    private static void lookAnotherWhat() {
        Edges.sentence("look: NoSuchElementException: another what");
        Edges.span(States::some, Edges.NO_ELEMENT, 1, Edges.from(0, 5), "look", 0, 0);
        Edges.span(States::twelveLots, Edges.NO_ELEMENT, 1, Edges.from(0, 5), "look", 11, 0);
        for (int what = 0; what <= 5; what++) {
            int[] ofCores = {0, 32, 8, 200, 230, 2};
            Edges.dueWithoutTrace(States::some, ofCores[what], "look", 0, what);
            int[] ofLacquer = {2, 96, 4, -1, -1, 0};
            Edges.dueWithoutTrace(States::some, ofLacquer[what], "look", 5, what);
        }
    }

    private static void lookAtPieces() {
        Edges.sentence("look: 1 pieces that are left");
        PencilWorks x = States.lots(1, 1, 0);
        x.lot(2, 40);
        Edges.due(x, 40, "look", 0, 1);
        x.make(0, 1, 2, 40);
        Edges.due(x, 0, "look", 0, 1);
        Edges.due(x, 960, "look", 1, 1);
        Edges.due(x, 0, "look", 2, 1);
    }

    private static void lookAtPencils() {
        Edges.sentence("look: 2 pencils made of it");
        PencilWorks x = States.lots(10, 1, 1);
        for (int lot = 0; lot < 12; lot++) {
            Edges.due(x, 0, "look", lot, 2);
        }
        for (int core = 0; core < 10; core++) {
            x.make(core, 10, 11, 40);
            Edges.due(x, 40, "look", core, 2);
        }
        Edges.due(x, 400, "look", 10, 2);
        Edges.due(x, 400, "look", 11, 2);
        Edges.due(x, 400, "count", 4);
    }

    private static void lookAtLowAndHigh() {
        Edges.sentence("look: 3 LOW, 4 HIGH (of a BLEND; NONE of another KIND)");
        PencilWorks x = new PencilWorks();
        x.earth(0, 0, 1, 10);
        x.cores(0, 1000);
        x.earth(1000, 1000, 1, 10);
        x.cores(0, 1000);
        x.earth(0, 1000, 1, 10);
        x.cores(0, 1000);
        x.lot(1, 5);
        x.lot(2, 5);
        int[][] want = {{0, 0}, {1000, 1000}, {0, 1000}, {-1, -1}, {-1, -1}};
        for (int lot = 0; lot < 5; lot++) {
            Edges.due(x, want[lot][0], "look", lot, 3);
            Edges.due(x, want[lot][1], "look", lot, 4);
        }
    }

    private static void lookAtBatchesThatBroke() {
        Edges.sentence("look: 5 how many BATCHES of it broke");
        PencilWorks x = States.lots(2, 2, 2);
        Edges.due(x, 0, "look", 0, 5);
        x.make(0, 2, 4, 3);
        x.make(0, 3, 4, 3);
        x.make(0, 3, 4, 3);
        Edges.due(x, 0, "look", 0, 5);
        x.trial(0, false);
        Edges.due(x, 0, "look", 0, 5);
        x.trial(0, true);
        x.trial(0, true);
        Edges.due(x, 1, "look", 0, 5);
        // two batches of the same three lots are two
        x.trial(1, true);
        x.trial(2, true);
        int[] want = {3, 0, 1, 2, 3, 0};
        for (int lot = 0; lot < 6; lot++) {
            Edges.due(x, want[lot], "look", lot, 5);
        }
        PencilWorks all = States.lots(2, 1, 1);
        for (int i = 0; i < 60; i++) {
            all.make(i % 2, 2, 3, 1);
            all.trial(i, true);
        }
        Edges.due(all, 30, "look", 0, 5);
        Edges.due(all, 30, "look", 1, 5);
        Edges.due(all, 60, "look", 2, 5);
        Edges.due(all, 60, "look", 3, 5);
    }

    private static void lookAsKnownToday() {
        Edges.sentence("look: as known TODAY");
        PencilWorks x = States.lots(1, 1, 1);
        x.make(0, 1, 2, 1);
        x.trial(0, true);
        Edges.due(x, 1, "look", 0, 5);
        x.days(1);
        Edges.due(x, 1, "look", 0, 5);
        x.undo(0);
        Edges.due(x, 0, "look", 0, 5);
        x.days(100);
        Edges.due(x, 0, "look", 0, 5);
        x.trial(0, true);
        x.trial(0, true);
        x.undo(1);
        Edges.due(x, 1, "look", 0, 5);
        x.undo(2);
        Edges.due(x, 0, "look", 0, 5);
        PencilWorks last = States.lastDay();
        Edges.due(last, 2, "look", 0, 5);
        last.undo(0);
        Edges.due(last, 1, "look", 0, 5);
        last.trial(0, true);
        Edges.due(last, 2, "look", 0, 5);
    }
}
