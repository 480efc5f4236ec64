/** Objects that the tests of edges begin with; each call makes a new one, always the same. */
final class States {
    private States() {
    }

    static PencilWorks fresh() {
        return new PencilWorks();
    }

    /**
     * Something of all. Two earths that have 15 and 5; lots 0 and 1 of cores, 2 and 3 of slats, 4 and 5 of lacquer;
     * three batches, four trials, the last one taken back today, day 7; slats, two grades, costs and three jobs.
     */
    static PencilWorks some() {
        PencilWorks x = new PencilWorks();
        x.earth(100, 110, 3, 25);
        x.earth(200, 230, 1, 15);
        x.cores(0, 1000);
        x.cores(100, 115);
        x.lot(1, 200);
        x.lot(1, 100);
        x.lot(2, 200);
        x.lot(2, 100);
        x.make(0, 2, 4, 5);
        x.make(1, 3, 5, 4);
        x.make(0, 3, 4, 3);
        x.trial(0, true);
        x.trial(1, false);
        x.days(5);
        x.trial(2, true);
        x.trial(1, true);
        x.days(2);
        x.undo(3);
        x.slats(3, 20);
        x.slats(7, 10);
        x.grade(2, 30, 15);
        x.grade(6, 50, 8);
        x.change(0, 1, 7);
        x.change(1, 2, 3);
        x.change(2, 0, 5);
        x.change(1, 0, 2);
        x.job(1);
        x.job(2);
        x.job(1);
        x.on(0);
        return x;
    }

    static PencilWorks sixEarths() {
        PencilWorks x = some();
        for (int i = 2; i < 6; i++) {
            x.earth(10 * i, 11 * i, i, i);
        }
        return x;
    }

    static PencilWorks twelveLots() {
        PencilWorks x = some();
        for (int i = 6; i < 12; i++) {
            x.lot(1 + i % 2, i);
        }
        return x;
    }

    /** Both lots of cores have pieces left: it is the sixty alone that leave no place. */
    static PencilWorks sixtyBatches() {
        PencilWorks x = some();
        for (int i = 3; i < 60; i++) {
            x.make(i % 2, 2 + i % 2, 4 + i % 2, 1);
        }
        return x;
    }

    static PencilWorks hundredTrials() {
        PencilWorks x = some();
        for (int i = 4; i < 100; i++) {
            x.trial(1, false);
        }
        return x;
    }

    static PencilWorks sixGrades() {
        PencilWorks x = some();
        for (int i = 2; i < 6; i++) {
            x.grade(i, 10 * i, i);
        }
        return x;
    }

    static PencilWorks tenJobs() {
        PencilWorks x = some();
        for (int i = 3; i < 10; i++) {
            x.job(i % 3);
        }
        return x;
    }

    static PencilWorks lastDay() {
        PencilWorks x = some();
        for (int i = 0; i < 10; i++) {
            x.days(100);
        }
        return x;
    }

    /** All places taken at once: earths, lots, batches, trials, grades, jobs and days. */
    static PencilWorks allFull() {
        PencilWorks x = sixtyBatches();
        for (int i = 2; i < 6; i++) {
            x.earth(10 * i, 11 * i, i, i);
            x.grade(i, 10 * i, i);
        }
        for (int i = 6; i < 12; i++) {
            x.lot(1 + i % 2, i);
        }
        for (int i = 4; i < 100; i++) {
            x.trial(i % 60, i % 7 == 0);
        }
        for (int i = 3; i < 10; i++) {
            x.job(i % 6);
            x.days(100);
        }
        x.days(100);
        x.days(100);
        x.days(100);
        return x;
    }

    /** One earth that has so many parts. */
    static PencilWorks oneEarth(int has) {
        PencilWorks x = new PencilWorks();
        x.earth(50, 60, 2, has);
        return x;
    }

    /** Lots in this order: so many of cores, of slats and of lacquer, those of cores with 40 pieces, the rest 1000. */
    static PencilWorks lots(int cores, int slats, int lacquer) {
        PencilWorks x = oneEarth(1000);
        for (int i = 0; i < cores; i++) {
            x.cores(0, 1000);
        }
        for (int i = 0; i < slats; i++) {
            x.lot(1, 1000);
        }
        for (int i = 0; i < lacquer; i++) {
            x.lot(2, 1000);
        }
        return x;
    }
}
