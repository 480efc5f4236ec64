/** The edges of earths and blends: promises 2 to 6, and the terms' first part. One test for each sentence. */
public final class EarthEdgesTest {
    public static void main(String[] args) {
        sixEarthsAtMost();
        earthWrongAndTheSeventh();
        hardnessFrom0To1000();
        lowNotAboveHigh();
        priceFrom1To1000();
        hasFrom0To1000();
        bringNoSuchEarth();
        bringFrom0To1000();
        bringNotMoreThan1000();
        bringIndexFirst();
        tenParts();
        noneMoreThanItHas();
        lowIsRoundedDown();
        highIsRoundedUp();
        holdsAtTheWorst();
        leastPrice();
        fewestPartsOfEarth0();
        blendNone();
        blendGrade();
        partsNoSuchEarth();
        partsNone();
        partsGrade();
        coresTakenOff();
        coresNoBlend();
        coresTwelveLots();
        coresGrade();
        Edges.end();
    }

    private static PencilWorks oneEarthWith0() {
        return States.oneEarth(0);
    }

    private static PencilWorks oneEarthWith1() {
        return States.oneEarth(1);
    }

    private static PencilWorks oneEarthWith9() {
        return States.oneEarth(9);
    }

    private static PencilWorks oneEarthWith1000() {
        return States.oneEarth(1000);
    }

    private static void sixEarthsAtMost() {
        Edges.sentence("EARTHS (at most 6, numbered from 0 on); UnsupportedOperationException: there are 6");
        PencilWorks x = new PencilWorks();
        for (int i = 0; i < 6; i++) {
            Edges.due(x, i, "earth", i, i, 1, 1);
            Edges.due(x, i + 1, "count", 1);
        }
        Edges.refused(States::sixEarths, Edges.UNSUPPORTED, "earth", 0, 0, 1, 0);
        Edges.refused(States::sixEarths, Edges.UNSUPPORTED, "earth", 1000, 1000, 1000, 1000);
        Edges.refused(States::allFull, Edges.UNSUPPORTED, "earth", 0, 1000, 1, 1000);
        // an earth that has nothing keeps its place
        Edges.refused(() -> equalEarths(0, 0, 0, 0, 0, 0), Edges.UNSUPPORTED, "earth", 5, 5, 1, 1);
    }

    private static void earthWrongAndTheSeventh() {
        Edges.sentence("earth: of several exceptions the one told first");
        Edges.refused(States::sixEarths, Edges.ARGUMENT, "earth", -1, 0, 1, 0);
        Edges.refused(States::sixEarths, Edges.ARGUMENT, "earth", 1, 0, 1, 0);
        Edges.refused(States::sixEarths, Edges.ARGUMENT, "earth", 0, 1001, 1, 0);
        Edges.refused(States::sixEarths, Edges.ARGUMENT, "earth", 0, 0, 0, 0);
        Edges.refused(States::sixEarths, Edges.ARGUMENT, "earth", 0, 0, 1, 1001);
    }

    private static void hardnessFrom0To1000() {
        Edges.sentence("LOW and HIGH (0 to 1000)");
        Edges.span(States::some, Edges.ARGUMENT, 0, Edges.from(0, 1000), "earth", 0, 1000, 5, 10);
        Edges.span(States::some, Edges.ARGUMENT, 1, Edges.from(0, 1000), "earth", 0, 0, 5, 10);
        Edges.refused(States::some, Edges.ARGUMENT, "earth", -1, -1, 5, 10);
        Edges.refused(States::some, Edges.ARGUMENT, "earth", 1001, 1001, 5, 10);
        Edges.refused(States::fresh, Edges.ARGUMENT, "earth", Edges.LEAST_INT, Edges.GREATEST_INT, 5, 10);
        PencilWorks softest = new PencilWorks();
        Edges.due(softest, 0, "earth", 0, 0, 5, 10);
        Edges.due(softest, 50, "blend", 0, 0);
        Edges.due(softest, -1, "blend", 1, 1000);
        PencilWorks hardest = new PencilWorks();
        Edges.due(hardest, 0, "earth", 1000, 1000, 5, 10);
        Edges.due(hardest, 50, "blend", 1000, 1000);
        Edges.due(hardest, -1, "blend", 0, 999);
        PencilWorks widest = new PencilWorks();
        Edges.due(widest, 0, "earth", 0, 1000, 5, 10);
        Edges.due(widest, 50, "blend", 0, 1000);
        Edges.due(widest, -1, "blend", 0, 999);
        Edges.due(widest, -1, "blend", 1, 1000);
    }

    private static void lowNotAboveHigh() {
        Edges.sentence("LOW not above HIGH");
        Edges.due(States.some(), 2, "earth", 500, 500, 5, 10);
        Edges.due(States.some(), 2, "earth", 500, 501, 5, 10);
        Edges.refused(States::some, Edges.ARGUMENT, "earth", 501, 500, 5, 10);
        Edges.refused(States::some, Edges.ARGUMENT, "earth", 1, 0, 5, 10);
        Edges.refused(States::some, Edges.ARGUMENT, "earth", 1000, 999, 5, 10);
        Edges.refused(States::some, Edges.ARGUMENT, "earth", 1000, 0, 5, 10);
    }

    private static void priceFrom1To1000() {
        Edges.sentence("a PRICE a part (1 to 1000)");
        Edges.span(States::some, Edges.ARGUMENT, 2, Edges.from(1, 1000), "earth", 0, 0, 0, 10);
        PencilWorks cheapest = new PencilWorks();
        Edges.due(cheapest, 0, "earth", 7, 7, 1, 10);
        Edges.due(cheapest, 10, "blend", 0, 1000);
        PencilWorks dearest = new PencilWorks();
        Edges.due(dearest, 0, "earth", 7, 7, 1000, 10);
        Edges.due(dearest, 10000, "blend", 0, 1000);
    }

    private static void hasFrom0To1000() {
        Edges.sentence("HAS parts (0 to 1000)");
        Edges.span(States::some, Edges.ARGUMENT, 3, Edges.from(0, 1000), "earth", 0, 0, 1, 0);
        Edges.due(States.oneEarth(0), 0, "bring", 0, 0);
        Edges.due(States.oneEarth(0), -1, "blend", 0, 1000);
        Edges.due(States.oneEarth(1000), 1000, "bring", 0, 0);
    }

    private static void bringNoSuchEarth() {
        Edges.sentence("bring: there is no such EARTH");
        Edges.refused(States::fresh, Edges.INDEX, "bring", 0, 0);
        Edges.span(States::some, Edges.INDEX, 0, Edges.from(0, 1), "bring", 0, 1);
        Edges.span(States::sixEarths, Edges.INDEX, 0, Edges.from(0, 5), "bring", 0, 1);
        PencilWorks x = States.sixEarths();
        Edges.due(x, 16, "bring", 0, 1);
        Edges.due(x, 6, "bring", 5, 1);
        Edges.due(x, 5, "bring", 1, 0);
    }

    private static void bringFrom0To1000() {
        Edges.sentence("bring: not 0 to 1000");
        Edges.span(EarthEdgesTest::oneEarthWith0, Edges.ARGUMENT, 1, Edges.from(0, 1000), "bring", 0, 0);
        Edges.due(States.oneEarth(0), 1000, "bring", 0, 1000);
        Edges.dueWithoutTrace(EarthEdgesTest::oneEarthWith9, 9, "bring", 0, 0);
        Edges.refused(EarthEdgesTest::oneEarthWith9, Edges.ARGUMENT, "bring", 0, -9);
        Edges.refused(EarthEdgesTest::oneEarthWith1000, Edges.ARGUMENT, "bring", 0, -1);
    }

    private static void bringNotMoreThan1000() {
        Edges.sentence("bring: or it would have more than 1000");
        Edges.due(States.oneEarth(1), 1000, "bring", 0, 999);
        Edges.refused(EarthEdgesTest::oneEarthWith1, Edges.ARGUMENT, "bring", 0, 1000);
        Edges.due(States.oneEarth(9), 1000, "bring", 0, 991);
        Edges.refused(EarthEdgesTest::oneEarthWith9, Edges.ARGUMENT, "bring", 0, 992);
        Edges.dueWithoutTrace(EarthEdgesTest::oneEarthWith1000, 1000, "bring", 0, 0);
        Edges.refused(EarthEdgesTest::oneEarthWith1000, Edges.ARGUMENT, "bring", 0, 1);
        Edges.refused(EarthEdgesTest::oneEarthWith1000, Edges.ARGUMENT, "bring", 0, Edges.GREATEST_INT);
        PencilWorks x = States.oneEarth(1000);
        x.cores(0, 1000);
        Edges.due(x, 1000, "bring", 0, 10);
    }

    private static void bringIndexFirst() {
        Edges.sentence("bring: of several exceptions the one told first");
        Edges.refused(States::some, Edges.INDEX, "bring", 2, -1);
        Edges.refused(States::some, Edges.INDEX, "bring", -1, 1001);
        Edges.refused(States::fresh, Edges.INDEX, "bring", 0, Edges.LEAST_INT);
    }

    private static void tenParts() {
        Edges.sentence("A BLEND: ten parts, of whole numbers of parts of EARTHS");
        Edges.due(States.oneEarth(9), -1, "blend", 0, 1000);
        Edges.due(States.oneEarth(10), 20, "blend", 0, 1000);
        Edges.due(States.oneEarth(11), 20, "blend", 0, 1000);
        Edges.due(States.oneEarth(11), 10, "parts", 0, 1000, 0);
        PencilWorks nine = new PencilWorks();
        PencilWorks ten = new PencilWorks();
        for (int i = 0; i < 6; i++) {
            nine.earth(5, 5, 1, i < 3 ? 1 : 2);
            ten.earth(5, 5, 1, i < 2 ? 1 : 2);
        }
        Edges.due(nine, -1, "blend", 0, 1000);
        Edges.due(ten, 10, "blend", 0, 1000);
        for (int i = 0; i < 6; i++) {
            Edges.due(ten, i < 2 ? 1 : 2, "parts", 0, 1000, i);
        }
    }

    private static void noneMoreThanItHas() {
        Edges.sentence("of none more than it HAS");
        PencilWorks x = new PencilWorks();
        x.earth(5, 5, 9, 10);
        x.earth(5, 5, 1, 9);
        Edges.due(x, 18, "blend", 0, 1000);
        Edges.due(x, 1, "parts", 0, 1000, 0);
        Edges.due(x, 9, "parts", 0, 1000, 1);
        x.bring(1, 1);
        Edges.due(x, 10, "blend", 0, 1000);
        x.cores(0, 1000);
        Edges.due(x, 90, "blend", 0, 1000);
        Edges.due(x, 0, "parts", 0, 1000, 1);
    }

    /** One of the first and nine of the second; the sum of lows, and of highs, is 9 * 10 + last. */
    private static PencilWorks oneAndNine(int last) {
        PencilWorks x = new PencilWorks();
        x.earth(last, last, 1, 1);
        x.earth(10, 10, 1, 9);
        return x;
    }

    private static void lowIsRoundedDown() {
        Edges.sentence("Its LOW: the sum of LOWS, each times its parts, by 10, rounded down");
        int[][] lastAndLow = {{0, 9}, {1, 9}, {9, 9}, {10, 10}, {11, 10}, {19, 10}, {20, 11}};
        for (int[] row : lastAndLow) {
            PencilWorks x = oneAndNine(row[0]);
            Edges.due(x, 10, "blend", row[1], 1000);
            Edges.due(x, -1, "blend", row[1] + 1, 1000);
            x.cores(0, 1000);
            Edges.due(x, row[1], "look", 0, 3);
        }
    }

    private static void highIsRoundedUp() {
        Edges.sentence("its HIGH likewise with HIGHS, rounded up");
        int[][] lastAndHigh = {{0, 9}, {1, 10}, {9, 10}, {10, 10}, {11, 11}, {19, 11}, {20, 11}, {21, 12}};
        for (int[] row : lastAndHigh) {
            PencilWorks x = oneAndNine(row[0]);
            Edges.due(x, 10, "blend", 0, row[1]);
            Edges.due(x, -1, "blend", 0, row[1] - 1);
            x.cores(0, 1000);
            Edges.due(x, row[1], "look", 0, 4);
        }
        PencilWorks hardest = new PencilWorks();
        hardest.earth(999, 999, 1, 1);
        hardest.earth(1000, 1000, 1, 9);
        Edges.due(hardest, 10, "blend", 999, 1000);
        hardest.cores(0, 1000);
        Edges.due(hardest, 999, "look", 0, 3);
        Edges.due(hardest, 1000, "look", 0, 4);
    }

    private static void holdsAtTheWorst() {
        Edges.sentence("HOLDS a grade from a to b, if its LOW is not below a and its HIGH not above b");
        PencilWorks x = States.oneEarth(10);
        Edges.due(x, 20, "blend", 50, 60);
        Edges.due(x, 20, "blend", 49, 61);
        Edges.due(x, -1, "blend", 51, 60);
        Edges.due(x, -1, "blend", 50, 59);
        Edges.due(x, -1, "blend", 55, 55);
        // a cheap one whose high is 1 too high, and one whose low is 1 too low
        PencilWorks y = new PencilWorks();
        y.earth(50, 61, 1, 10);
        y.earth(49, 60, 1, 10);
        y.earth(50, 60, 1000, 10);
        Edges.due(y, 10000, "blend", 50, 60);
        Edges.due(y, 10, "parts", 50, 60, 2);
        Edges.due(y, 10, "blend", 49, 60);
        Edges.due(y, 10, "blend", 50, 61);
    }

    private static void leastPrice() {
        Edges.sentence("The best BLEND for a grade: that of the least PRICE (of all its parts together)");
        PencilWorks x = new PencilWorks();
        x.earth(5, 5, 2, 1000);
        x.earth(5, 5, 1000, 1000);
        x.earth(5, 5, 1, 9);
        Edges.due(x, 11, "blend", 0, 1000);
        Edges.due(x, 1, "parts", 0, 1000, 0);
        Edges.due(x, 0, "parts", 0, 1000, 1);
        Edges.due(x, 9, "parts", 0, 1000, 2);
        // by price, not by the fewest of earth 0
        PencilWorks y = new PencilWorks();
        y.earth(5, 5, 999, 10);
        y.earth(5, 5, 1000, 10);
        Edges.due(y, 9990, "blend", 0, 1000);
        Edges.due(y, 10, "parts", 0, 1000, 0);
    }

    private static void dueParts(PencilWorks x, int... parts) {
        for (int earth = 0; earth < parts.length; earth++) {
            Edges.due(x, parts[earth], "parts", 0, 1000, earth);
        }
    }

    private static PencilWorks equalEarths(int... has) {
        PencilWorks x = new PencilWorks();
        for (int h : has) {
            x.earth(50, 50, 2, h);
        }
        return x;
    }

    private static void fewestPartsOfEarth0() {
        Edges.sentence("of several that with the fewest parts of EARTH 0, then of 1, and so on");
        dueParts(equalEarths(10, 10, 10, 10, 10, 10), 0, 0, 0, 0, 0, 10);
        dueParts(equalEarths(10, 10, 10, 10, 10, 3), 0, 0, 0, 0, 7, 3);
        dueParts(equalEarths(10, 10, 10, 10, 2, 3), 0, 0, 0, 5, 2, 3);
        dueParts(equalEarths(10, 10, 10, 1, 2, 3), 0, 0, 4, 1, 2, 3);
        dueParts(equalEarths(10, 10, 2, 1, 2, 3), 0, 2, 2, 1, 2, 3);
        dueParts(equalEarths(10, 1, 2, 1, 2, 3), 1, 1, 2, 1, 2, 3);
        dueParts(equalEarths(5, 5, 5, 0, 2, 0), 0, 3, 5, 0, 2, 0);
        PencilWorks x = equalEarths(1000, 1000);
        x.cores(0, 1000);
        Edges.due(x, 1000, "bring", 0, 0);
        Edges.due(x, 990, "bring", 1, 0);
        // of earths 1 to 3, 50 is hit by 2 alone or by 1 and 3 in halves, at one price: none of earth 1 is fewest
        PencilWorks y = new PencilWorks();
        y.earth(50, 50, 9, 10);
        y.earth(40, 40, 2, 10);
        y.earth(50, 50, 3, 10);
        y.earth(60, 60, 4, 10);
        int[] want = {0, 0, 10, 0};
        for (int earth = 0; earth < 4; earth++) {
            Edges.due(y, want[earth], "parts", 50, 50, earth);
        }
    }

    private static void blendNone() {
        Edges.sentence("blend: NONE without one");
        Edges.dueWithoutTrace(States::fresh, -1, "blend", 0, 1000);
        Edges.dueWithoutTrace(EarthEdgesTest::oneEarthWith0, -1, "blend", 0, 1000);
        Edges.dueWithoutTrace(EarthEdgesTest::oneEarthWith9, -1, "blend", 0, 1000);
        Edges.dueWithoutTrace(EarthEdgesTest::oneEarthWith1000, -1, "blend", 0, 59);
        Edges.dueWithoutTrace(EarthEdgesTest::oneEarthWith1000, 20, "blend", 0, 1000);
        Edges.dueWithoutTrace(States::some, 20, "blend", 0, 1000);
    }

    private static void refusedGrades(String name, int... behind) {
        int[][] wrong = {
            {-1, 0}, {-1, 1000}, {0, 1001}, {1000, 1001}, {1001, 1001}, {1, 0}, {501, 500}, {1000, 999}, {-1, -1},
            {Edges.LEAST_INT, 1000}, {0, Edges.GREATEST_INT}, {Edges.LEAST_INT, Edges.GREATEST_INT},
            {Edges.GREATEST_INT, Edges.LEAST_INT}, {0, Edges.LEAST_INT}, {Edges.GREATEST_INT, 1000}};
        for (int[] grade : wrong) {
            int[] args = new int[2 + behind.length];
            System.arraycopy(grade, 0, args, 0, 2);
            System.arraycopy(behind, 0, args, 2, behind.length);
            Edges.refused(States::some, Edges.ARGUMENT, name, args);
        }
    }

    private static void blendGrade() {
        Edges.sentence("blend: not 0 to a to b to 1000");
        refusedGrades("blend");
        Edges.refused(States::fresh, Edges.ARGUMENT, "blend", 1, 0);
        Edges.due(States.some(), -1, "blend", 0, 0);
        Edges.due(States.some(), -1, "blend", 1000, 1000);
        PencilWorks x = new PencilWorks();
        x.earth(500, 500, 1, 10);
        Edges.due(x, 10, "blend", 500, 500);
        Edges.due(x, 10, "blend", 0, 1000);
    }

    private static void partsNoSuchEarth() {
        Edges.sentence("parts: there is no such EARTH; of several exceptions the one told first");
        Edges.refused(States::fresh, Edges.INDEX, "parts", 0, 1000, 0);
        Edges.span(States::some, Edges.INDEX, 2, Edges.from(0, 1), "parts", 0, 1000, 0);
        Edges.span(States::sixEarths, Edges.INDEX, 2, Edges.from(0, 5), "parts", 0, 1000, 0);
        Edges.refused(States::some, Edges.INDEX, "parts", 1, 0, 2);
        Edges.refused(States::some, Edges.INDEX, "parts", -1, 1001, -1);
        Edges.refused(States::fresh, Edges.INDEX, "parts", 1, 0, 0);
    }

    private static void partsNone() {
        Edges.sentence("parts: NONE without a BLEND");
        Edges.dueWithoutTrace(EarthEdgesTest::oneEarthWith9, -1, "parts", 0, 1000, 0);
        Edges.dueWithoutTrace(EarthEdgesTest::oneEarthWith1000, -1, "parts", 51, 1000, 0);
        Edges.dueWithoutTrace(EarthEdgesTest::oneEarthWith1000, 10, "parts", 50, 60, 0);
        // none of it in a blend is 0, not NONE
        PencilWorks x = equalEarths(10, 10);
        Edges.due(x, 0, "parts", 0, 1000, 0);
        // a blend that was found before is not answered for a grade without one
        Edges.due(x, -1, "parts", 51, 1000, 0);
        Edges.due(x, -1, "parts", 51, 1000, 1);
    }

    private static void partsGrade() {
        Edges.sentence("parts: IllegalArgumentException likewise");
        refusedGrades("parts", 0);
        refusedGrades("parts", 1);
        Edges.due(equalEarths(10), 10, "parts", 50, 50, 0);
        Edges.due(equalEarths(10), -1, "parts", 0, 0, 0);
        Edges.due(equalEarths(10), -1, "parts", 1000, 1000, 0);
    }

    private static void coresTakenOff() {
        Edges.sentence("CORES: the best BLEND is taken off the EARTHS, and is a LOT of KIND 0 with 40 pieces");
        PencilWorks x = States.oneEarth(20);
        Edges.due(x, 0, "cores", 50, 60);
        Edges.due(x, 10, "bring", 0, 0);
        Edges.due(x, 1, "cores", 50, 60);
        Edges.due(x, 0, "bring", 0, 0);
        Edges.due(x, -1, "cores", 50, 60);
        Edges.due(x, 0, "bring", 0, 0);
        for (int lot = 0; lot < 2; lot++) {
            int[] want = {0, 40, 0, 50, 60, 0};
            for (int what = 0; what <= 5; what++) {
                Edges.due(x, want[what], "look", lot, what);
            }
        }
        // earths of equal price are taken off as parts tells them
        PencilWorks y = equalEarths(10, 3, 4);
        Edges.due(y, 0, "cores", 50, 50);
        Edges.due(y, 7, "bring", 0, 0);
        Edges.due(y, 0, "bring", 1, 0);
        Edges.due(y, 0, "bring", 2, 0);
        // of all six earths at once
        PencilWorks z = equalEarths(3, 2, 2, 2, 1, 1);
        Edges.due(z, 0, "cores", 50, 50);
        int[] left = {1, 0, 0, 0, 0, 0};
        for (int earth = 0; earth < 6; earth++) {
            Edges.due(z, left[earth], "bring", earth, 0);
        }
    }

    private static void coresNoBlend() {
        Edges.sentence("cores: NONE, and nothing happens, without a BLEND");
        Edges.dueWithoutTrace(States::fresh, -1, "cores", 0, 1000);
        Edges.dueWithoutTrace(EarthEdgesTest::oneEarthWith0, -1, "cores", 0, 1000);
        Edges.dueWithoutTrace(EarthEdgesTest::oneEarthWith9, -1, "cores", 0, 1000);
        Edges.dueWithoutTrace(EarthEdgesTest::oneEarthWith1000, -1, "cores", 0, 59);
        Edges.dueWithoutTrace(EarthEdgesTest::oneEarthWith1000, -1, "cores", 51, 1000);
        Edges.dueWithoutTrace(States::some, -1, "cores", 0, 99);
        // a blend that was found before is not taken off for a grade without one
        PencilWorks x = States.oneEarth(100);
        x.blend(0, 1000);
        Edges.due(x, -1, "cores", 0, 59);
        Edges.due(x, 100, "bring", 0, 0);
        Edges.due(x, 0, "count", 2);
    }

    private static void coresTwelveLots() {
        Edges.sentence("cores: NONE, and nothing happens, if there are 12 LOTS");
        PencilWorks x = States.lots(11, 0, 0);
        Edges.due(x, 11, "cores", 0, 1000);
        Edges.due(x, 12, "count", 2);
        Edges.due(x, 880, "bring", 0, 0);
        Edges.due(x, 20, "blend", 0, 1000);
        Edges.dueWithoutTrace(() -> States.lots(12, 0, 0), -1, "cores", 0, 1000);
        Edges.dueWithoutTrace(() -> States.lots(0, 12, 0), -1, "cores", 0, 1000);
        Edges.dueWithoutTrace(States::twelveLots, -1, "cores", 0, 1000);
        Edges.dueWithoutTrace(States::twelveLots, -1, "cores", 0, 0);
        Edges.dueWithoutTrace(States::allFull, -1, "cores", 0, 1000);
    }

    private static void coresGrade() {
        Edges.sentence("cores: IllegalArgumentException likewise");
        refusedGrades("cores");
        Edges.refused(States::fresh, Edges.ARGUMENT, "cores", 1, 0);
        Edges.refused(States::twelveLots, Edges.ARGUMENT, "cores", 1, 0);
        Edges.refused(States::twelveLots, Edges.ARGUMENT, "cores", 0, 1001);
        Edges.due(equalEarths(10), 0, "cores", 50, 50);
        Edges.due(equalEarths(10), -1, "cores", 0, 0);
        Edges.due(equalEarths(10), -1, "cores", 1000, 1000);
    }
}
