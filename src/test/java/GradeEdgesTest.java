/** The edges of slats and grades: promises 14 to 17, and the terms' fourth part. One test for each sentence. */
public final class GradeEdgesTest {
    public static void main(String[] args) {
        qualitiesFrom0To9();
        slatsFrom0To200();
        slatsInPlaceOfWhatWas();
        sixGradesAtMost();
        gradeWrongBeforeNone();
        leastQualityFrom0To9();
        worthFrom1To1000();
        roomFrom0To500();
        ungradeAll();
        mostOfNothing();
        eachToOneAtMost();
        ofAtLeastItsQuality();
        noGradeAboveItsRoom();
        mostIsTheGreatestSum();
        Edges.end();
    }

    private static void qualitiesFrom0To9() {
        Edges.sentence("QUALITY 0 to 9; slats: IllegalArgumentException: a number is none");
        Edges.span(States::some, Edges.ARGUMENT, 0, Edges.from(0, 9), "slats", 0, 5);
        PencilWorks x = new PencilWorks();
        Edges.due(x, 5, "slats", 0, 5);
        Edges.due(x, 11, "slats", 9, 6);
        Edges.refused(States::some, Edges.ARGUMENT, "slats", -1, 0);
        Edges.refused(States::some, Edges.ARGUMENT, "slats", 10, 201);
    }

    private static void slatsFrom0To200() {
        Edges.sentence("so many (0 to 200) of each QUALITY");
        for (int quality : new int[] {0, 3, 9}) {
            Edges.span(States::some, Edges.ARGUMENT, 1, Edges.from(0, 200), "slats", quality, 0);
        }
        Edges.due(States.some(), 30, "slats", 0, 0);
        Edges.due(States.some(), 230, "slats", 0, 200);
        PencilWorks all = new PencilWorks();
        for (int quality = 0; quality <= 9; quality++) {
            Edges.due(all, 200 * (quality + 1), "slats", quality, 200);
        }
        Edges.due(all, 2000, "count", 6);
        for (int quality = 0; quality <= 9; quality++) {
            Edges.due(all, 1800 - 200 * quality, "slats", quality, 0);
        }
        Edges.due(all, 0, "count", 6);
    }

    private static void slatsInPlaceOfWhatWas() {
        Edges.sentence("So many slats of a QUALITY, in place of what there was: how many slats there are in all");
        PencilWorks x = new PencilWorks();
        x.grade(0, 1, 500);
        Edges.due(x, 200, "slats", 4, 200);
        Edges.due(x, 200, "slats", 4, 200);
        Edges.due(x, 1, "slats", 4, 1);
        Edges.due(x, 1, "most");
        Edges.due(x, 3, "slats", 5, 2);
        Edges.due(x, 2, "slats", 4, 0);
        Edges.due(x, 2, "most");
        Edges.due(x, 2, "slats", 4, 0);
        Edges.dueWithoutTrace(States::some, 30, "slats", 3, 20);
        Edges.dueWithoutTrace(States::some, 30, "slats", 0, 0);
    }

    private static void sixGradesAtMost() {
        Edges.sentence("GRADES (at most 6); A grade: its number; NONE, and it does not come, if there are 6");
        PencilWorks x = new PencilWorks();
        for (int i = 0; i < 6; i++) {
            Edges.due(x, i, "grade", 9 - i, 1 + 100 * (i % 3), i);
            Edges.due(x, i + 1, "count", 7);
        }
        Edges.due(x, -1, "grade", 0, 1, 0);
        Edges.dueWithoutTrace(States::sixGrades, -1, "grade", 0, 1000, 500);
        Edges.dueWithoutTrace(States::sixGrades, -1, "grade", 9, 1, 0);
        Edges.dueWithoutTrace(States::allFull, -1, "grade", 0, 1000, 500);
    }

    private static void gradeWrongBeforeNone() {
        Edges.sentence("grade: a wrong call throws, and does not answer NONE");
        Edges.refused(States::sixGrades, Edges.ARGUMENT, "grade", -1, 1, 0);
        Edges.refused(States::sixGrades, Edges.ARGUMENT, "grade", 10, 1, 0);
        Edges.refused(States::sixGrades, Edges.ARGUMENT, "grade", 0, 0, 0);
        Edges.refused(States::sixGrades, Edges.ARGUMENT, "grade", 0, 1001, 0);
        Edges.refused(States::sixGrades, Edges.ARGUMENT, "grade", 0, 1, -1);
        Edges.refused(States::sixGrades, Edges.ARGUMENT, "grade", 0, 1, 501);
    }

    private static void leastQualityFrom0To9() {
        Edges.sentence("the least QUALITY (0 to 9)");
        Edges.span(States::some, Edges.ARGUMENT, 0, Edges.from(0, 9), "grade", 0, 1, 0);
        Edges.due(States.some(), 2, "grade", 0, 1, 0);
        Edges.due(States.some(), 2, "grade", 9, 1, 0);
        PencilWorks x = new PencilWorks();
        x.slats(0, 3);
        x.slats(9, 4);
        x.grade(9, 1, 500);
        Edges.due(x, 4, "most");
        x.ungrade();
        x.grade(0, 1, 500);
        Edges.due(x, 7, "most");
    }

    private static void worthFrom1To1000() {
        Edges.sentence("a WORTH a slat (1 to 1000)");
        Edges.span(States::some, Edges.ARGUMENT, 1, Edges.from(1, 1000), "grade", 0, 1, 5);
        PencilWorks x = new PencilWorks();
        x.slats(5, 200);
        x.grade(0, 1, 500);
        Edges.due(x, 200, "most");
        x.grade(0, 1000, 500);
        Edges.due(x, 200000, "most");
    }

    private static void roomFrom0To500() {
        Edges.sentence("for how many there is room (0 to 500)");
        Edges.span(States::some, Edges.ARGUMENT, 2, Edges.from(0, 500), "grade", 0, 1, 0);
        PencilWorks x = new PencilWorks();
        x.slats(5, 200);
        x.slats(6, 200);
        x.slats(7, 200);
        x.grade(0, 3, 0);
        Edges.due(x, 0, "most");
        x.grade(0, 2, 500);
        Edges.due(x, 1000, "most");
    }

    private static void ungradeAll() {
        Edges.sentence("No grades any more: how many there were");
        Edges.dueWithoutTrace(States::fresh, 0, "ungrade");
        Edges.due(States.some(), 2, "ungrade");
        PencilWorks x = States.sixGrades();
        Edges.due(x, 6, "ungrade");
        Edges.due(x, 0, "count", 7);
        Edges.due(x, 0, "most");
        Edges.due(x, 30, "count", 6);
        Edges.due(x, 0, "ungrade");
        // six come again, numbered from 0 on, and nothing of the old ones is left
        for (int i = 0; i < 6; i++) {
            Edges.due(x, i, "grade", 3, 1, 1);
        }
        Edges.due(x, -1, "grade", 3, 1, 1);
        Edges.due(x, 6, "most");
        Edges.due(x, 6, "ungrade");
    }

    private static void mostOfNothing() {
        Edges.sentence("MOST, without slats or without grades");
        Edges.dueWithoutTrace(States::fresh, 0, "most");
        PencilWorks slats = new PencilWorks();
        slats.slats(9, 200);
        Edges.due(slats, 0, "most");
        PencilWorks grades = new PencilWorks();
        grades.grade(0, 1000, 500);
        Edges.due(grades, 0, "most");
        // 8 of quality 7 at 50; of the rest 15 at 30
        Edges.dueWithoutTrace(States::some, 850, "most");
    }

    private static void eachToOneAtMost() {
        Edges.sentence("slats put to grades, each to one at most");
        PencilWorks x = new PencilWorks();
        x.slats(5, 10);
        x.grade(5, 7, 10);
        Edges.due(x, 70, "most");
        x.grade(5, 7, 10);
        Edges.due(x, 70, "most");
        x.grade(0, 8, 1);
        Edges.due(x, 71, "most");
        PencilWorks all = new PencilWorks();
        for (int quality = 0; quality <= 9; quality++) {
            all.slats(quality, 200);
        }
        for (int i = 0; i < 6; i++) {
            all.grade(0, 1000, 500);
        }
        Edges.due(all, 2000000, "most");
    }

    private static void ofAtLeastItsQuality() {
        Edges.sentence("of at least its QUALITY");
        for (int quality = 0; quality <= 9; quality++) {
            for (int least = 0; least <= 9; least++) {
                PencilWorks x = new PencilWorks();
                x.slats(quality, 3);
                x.grade(least, 2, 500);
                Edges.due(x, quality >= least ? 6 : 0, "most");
            }
        }
    }

    private static void noGradeAboveItsRoom() {
        Edges.sentence("no grade above its room");
        PencilWorks x = new PencilWorks();
        x.slats(5, 10);
        x.grade(5, 7, 9);
        Edges.due(x, 63, "most");
        x.slats(5, 9);
        Edges.due(x, 63, "most");
        x.slats(5, 8);
        Edges.due(x, 56, "most");
        x.slats(6, 200);
        Edges.due(x, 63, "most");
        PencilWorks full = new PencilWorks();
        for (int quality = 0; quality <= 9; quality++) {
            full.slats(quality, 200);
        }
        full.grade(0, 1000, 500);
        full.grade(0, 1, 500);
        full.grade(9, 999, 500);
        // 200 of quality 9 at 999, 500 of the others at 1000, 500 more at 1
        Edges.due(full, 199800 + 500000 + 500, "most");
    }

    private static void mostIsTheGreatestSum() {
        Edges.sentence("MOST: the greatest sum of WORTHS");
        // the good slat is to go where it alone will do, whichever grade comes first
        PencilWorks x = new PencilWorks();
        x.slats(1, 1);
        x.slats(9, 1);
        x.grade(1, 10, 1);
        x.grade(9, 9, 1);
        Edges.due(x, 19, "most");
        PencilWorks y = new PencilWorks();
        y.slats(1, 1);
        y.slats(9, 1);
        y.grade(9, 10, 1);
        y.grade(1, 9, 1);
        Edges.due(y, 19, "most");
        // one slat for two grades: the dearer one has it, by 1, whichever came first and whichever asks for more
        int[][] leastAndWorthOfTwo = {{9, 999, 0, 1000}, {0, 999, 9, 1000}, {0, 1000, 9, 999}, {9, 1000, 0, 999}};
        PencilWorks again = new PencilWorks();
        for (int[] two : leastAndWorthOfTwo) {
            PencilWorks first = new PencilWorks();
            again.ungrade();
            for (PencilWorks z : new PencilWorks[] {first, again}) {
                z.slats(9, 1);
                z.grade(two[0], two[1], 1);
                z.grade(two[2], two[3], 1);
                Edges.due(z, 1000, "most");
            }
        }
        // each grade keeps its own quality and its own room, though a dearer one comes behind it
        PencilWorks own = new PencilWorks();
        own.slats(1, 5);
        own.grade(9, 5, 10);
        own.grade(0, 6, 1);
        Edges.due(own, 6, "most");
        own.grade(1, 7, 2);
        Edges.due(own, 20, "most");
        own.slats(9, 3);
        Edges.due(own, 35, "most");
        // six grades in a stair, dearest at the top: each slat at its own step
        PencilWorks stair = new PencilWorks();
        for (int i = 0; i < 6; i++) {
            stair.slats(i + 4, 1);
            stair.grade(i + 4, 10 * (i + 1), 1);
        }
        Edges.due(stair, 210, "most");
    }
}
