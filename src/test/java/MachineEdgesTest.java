/** The edges of the lacquer machine: promises 18 to 21, and the terms' fifth part. One test for each sentence. */
public final class MachineEdgesTest {
    public static void main(String[] args) {
        changeNoSuchColour();
        costFrom0To1000();
        changeOfOneColour();
        changeIndexFirst();
        costIs0AtFirst();
        costIsOneWay();
        costIs0FromOneToItself();
        jobNoSuchColour();
        tenJobsAtMost();
        onNoSuchColour();
        onNone();
        changesWithoutJobs();
        noJobsAnyMore();
        beginsAtNoCost();
        beginsWithTheColourThatIsOn();
        leastSumOfAllOrders();
        lastColourIsOn();
        leastColoursFirst();
        tenJobsOfAllColours();
        Edges.end();
    }

    private static void jobs(PencilWorks x, int... colours) {
        for (int colour : colours) {
            x.job(colour);
        }
    }

    private static PencilWorks withAllCosts(int cost) {
        PencilWorks x = new PencilWorks();
        for (int from = 0; from <= 5; from++) {
            for (int to = 0; to <= 5; to++) {
                if (from != to) {
                    x.change(from, to, cost);
                }
            }
        }
        return x;
    }

    private static void dueChanges(PencilWorks x, int cost, int last) {
        Edges.due(x, cost, "changes");
        Edges.due(x, last, "count", 9);
        Edges.due(x, 0, "count", 8);
    }

    private static void changeNoSuchColour() {
        Edges.sentence("change: there is no such COLOUR (0 to 5)");
        Edges.span(States::some, Edges.INDEX, 0, Edges.from(0, 5), "change", 0, 3, 9);
        Edges.span(States::some, Edges.INDEX, 1, Edges.from(0, 5), "change", 3, 0, 9);
        Edges.refused(States::fresh, Edges.INDEX, "change", 5, 6, 9);
        Edges.refused(States::fresh, Edges.INDEX, "change", 6, 5, 9);
        Edges.refused(States::fresh, Edges.INDEX, "change", -1, 0, 9);
        Edges.refused(States::fresh, Edges.INDEX, "change", 0, -1, 9);
    }

    private static void costFrom0To1000() {
        Edges.sentence("a COST (0 to 1000); change: IllegalArgumentException: it is none");
        Edges.span(States::some, Edges.ARGUMENT, 2, Edges.from(0, 1000), "change", 0, 1, 0);
        Edges.span(States::some, Edges.ARGUMENT, 2, Edges.from(0, 1000), "change", 5, 4, 0);
        PencilWorks x = new PencilWorks();
        for (int cost : new int[] {0, 1, 999, 1000, 0}) {
            x.change(4, 5, cost);
            x.on(4);
            x.job(5);
            dueChanges(x, cost, 5);
        }
    }

    private static void changeOfOneColour() {
        Edges.sentence("change: or the COLOURS are one");
        for (int colour = 0; colour <= 5; colour++) {
            Edges.refused(States::some, Edges.ARGUMENT, "change", colour, colour, 0);
            Edges.refused(States::some, Edges.ARGUMENT, "change", colour, colour, 1000);
        }
        Edges.refused(States::some, Edges.ARGUMENT, "change", 3, 3, -1);
    }

    private static void changeIndexFirst() {
        Edges.sentence("change: of several exceptions the one told first");
        Edges.refused(States::some, Edges.INDEX, "change", 6, 6, 0);
        Edges.refused(States::some, Edges.INDEX, "change", -1, -1, 5);
        Edges.refused(States::some, Edges.INDEX, "change", 0, 6, -1);
        Edges.refused(States::some, Edges.INDEX, "change", -1, 0, 1001);
        Edges.refused(States::some, Edges.INDEX, "change", Edges.LEAST_INT, Edges.GREATEST_INT, Edges.LEAST_INT);
    }

    private static void costIs0AtFirst() {
        Edges.sentence("a COST of a change from one to another one (0 at first)");
        PencilWorks x = new PencilWorks();
        for (int from = 0; from <= 5; from++) {
            for (int to = 0; to <= 5; to++) {
                x.on(from);
                x.job(to);
                dueChanges(x, 0, to);
            }
        }
    }

    private static void costIsOneWay() {
        Edges.sentence("COST of a change, from one to another");
        for (int from = 0; from <= 5; from++) {
            int to = (from + 1) % 6;
            PencilWorks x = new PencilWorks();
            x.change(from, to, 8);
            for (int before = 0; before <= 5; before++) {
                for (int behind = 0; behind <= 5; behind++) {
                    x.on(before);
                    x.job(behind);
                    dueChanges(x, before == from && behind == to ? 8 : 0, behind);
                }
            }
        }
    }

    private static void costIs0FromOneToItself() {
        Edges.sentence("0 from one to itself");
        PencilWorks x = withAllCosts(1000);
        for (int colour = 0; colour <= 5; colour++) {
            x.on(colour);
            jobs(x, colour, colour, colour, colour, colour, colour, colour, colour, colour, colour);
            dueChanges(x, 0, colour);
        }
    }

    private static void jobNoSuchColour() {
        Edges.sentence("job: there is no such COLOUR");
        Edges.span(States::some, Edges.INDEX, 0, Edges.from(0, 5), "job", 0);
        Edges.span(States::fresh, Edges.INDEX, 0, Edges.from(0, 5), "job", 0);
        Edges.refused(States::tenJobs, Edges.INDEX, "job", 6);
        Edges.refused(States::tenJobs, Edges.INDEX, "job", -1);
        Edges.due(States.some(), 4, "job", 0);
        Edges.due(States.some(), 4, "job", 5);
    }

    private static void tenJobsAtMost() {
        Edges.sentence("JOBS (at most 10); A JOB: how many there are; NONE, and it does not come, if there are 10");
        for (int colour = 0; colour <= 5; colour++) {
            PencilWorks x = new PencilWorks();
            for (int i = 1; i <= 10; i++) {
                Edges.due(x, i, "job", colour);
                Edges.due(x, i, "count", 8);
            }
            Edges.due(x, -1, "job", colour);
            Edges.dueWithoutTrace(States::tenJobs, -1, "job", colour);
        }
        Edges.dueWithoutTrace(States::allFull, -1, "job", 5);
        PencilWorks y = States.tenJobs();
        y.changes();
        for (int i = 1; i <= 10; i++) {
            Edges.due(y, i, "job", 4);
        }
        Edges.due(y, -1, "job", 4);
    }

    private static void onNoSuchColour() {
        Edges.sentence("on: there is no such COLOUR");
        // NONE, which is -1, is taken
        Edges.span(States::some, Edges.INDEX, 0, Edges.from(-1, 5), "on", 0);
        Edges.span(States::fresh, Edges.INDEX, 0, Edges.from(-1, 5), "on", 0);
        PencilWorks x = new PencilWorks();
        for (int colour = 0; colour <= 5; colour++) {
            x.on(colour);
            Edges.due(x, colour, "count", 9);
        }
    }

    private static void onNone() {
        Edges.sentence("A COLOUR is on the machine, or none (NONE)");
        PencilWorks x = withAllCosts(10);
        x.on(5);
        x.on(PencilWorks.NONE);
        Edges.due(x, -1, "count", 9);
        x.job(0);
        dueChanges(x, 0, 0);
        Edges.dueWithoutTrace(States::fresh, 0, "on", -1);
        Edges.dueWithoutTrace(States::some, 0, "on", 0);
    }

    private static void changesWithoutJobs() {
        Edges.sentence("CHANGES (0 without JOBS); what was, without JOBS");
        Edges.dueWithoutTrace(States::fresh, 0, "changes");
        PencilWorks x = withAllCosts(1000);
        for (int colour = -1; colour <= 5; colour++) {
            x.on(colour);
            dueChanges(x, 0, colour);
        }
        // the second of two: the jobs are gone with the first
        PencilWorks y = States.tenJobs();
        y.changes();
        int last = y.count(9);
        dueChanges(y, 0, last);
    }

    private static void noJobsAnyMore() {
        Edges.sentence("there are no JOBS any more");
        PencilWorks x = withAllCosts(10);
        x.on(3);
        jobs(x, 0, 1, 2);
        dueChanges(x, 30, 2);
        // were a job of before left, this would cost more
        x.job(2);
        dueChanges(x, 0, 2);
        Edges.due(x, 1, "job", 5);
        dueChanges(x, 10, 5);
    }

    private static void beginsAtNoCost() {
        Edges.sentence("beginning with any one at no COST");
        PencilWorks x = withAllCosts(1000);
        for (int colour = 0; colour <= 5; colour++) {
            x.on(-1);
            x.job(colour);
            dueChanges(x, 0, colour);
        }
        x.on(-1);
        jobs(x, 2, 4);
        dueChanges(x, 1000, 4);
        // any one: the order begins where it is cheapest, not with the job that came first
        x.change(4, 2, 1);
        x.on(-1);
        jobs(x, 2, 4);
        dueChanges(x, 1, 2);
    }

    private static void beginsWithTheColourThatIsOn() {
        Edges.sentence("or with the COLOUR that is on the machine (a change to the first one, too)");
        PencilWorks x = withAllCosts(1000);
        x.on(0);
        x.job(1);
        dueChanges(x, 1000, 1);
        x.on(0);
        jobs(x, 1, 0);
        dueChanges(x, 1000, 1);
        // the way from 0 to the first one decides: 0 3 4 costs 1003, and 0 4 3 costs 1002
        x.change(0, 3, 1000);
        x.change(3, 4, 3);
        x.change(0, 4, 1000);
        x.change(4, 3, 2);
        x.on(0);
        jobs(x, 3, 4);
        dueChanges(x, 1002, 3);
        x.change(0, 3, 998);
        x.on(0);
        jobs(x, 3, 4);
        dueChanges(x, 1001, 4);
        // the colour that is on need not be a job's
        x.on(5);
        jobs(x, 5);
        dueChanges(x, 0, 5);
        jobs(x, 2);
        dueChanges(x, 1000, 2);
    }

    private static void leastSumOfAllOrders() {
        Edges.sentence("CHANGES: the least sum of COSTS, of all orders of the JOBS");
        // each order of 0, 1, 2 costs 2000 but 2 0 1
        PencilWorks x = withAllCosts(1000);
        x.change(2, 0, 0);
        x.change(0, 1, 0);
        jobs(x, 0, 1, 2);
        dueChanges(x, 0, 1);
        // jobs of one colour may stand apart: 1 0 2 0 3 goes through 0 twice, all other ways cost 1000 at least once
        PencilWorks y = withAllCosts(1000);
        for (int colour = 1; colour <= 3; colour++) {
            y.change(0, colour, 1);
            y.change(colour, 0, 1);
        }
        jobs(y, 0, 0, 1, 2, 3);
        dueChanges(y, 4, 3);
        y.on(3);
        jobs(y, 0, 0, 1, 2, 3);
        dueChanges(y, 4, 2);
        // five changes of six colours, each at the dearest
        PencilWorks z = withAllCosts(1000);
        jobs(z, 5, 4, 3, 2, 1, 0);
        dueChanges(z, 5000, 5);
        z.on(5);
        jobs(z, 4, 3, 2, 1, 0);
        dueChanges(z, 5000, 4);
    }

    private static void lastColourIsOn() {
        Edges.sentence("that COLOUR is on the machine that the last one of the order has");
        PencilWorks x = withAllCosts(1);
        x.change(5, 0, 0);
        jobs(x, 0, 5);
        dueChanges(x, 0, 0);
        jobs(x, 5);
        dueChanges(x, 1, 5);
        jobs(x, 0, 5);
        dueChanges(x, 0, 0);
    }

    private static void leastColoursFirst() {
        Edges.sentence("of several such orders that whose JOBS have the least COLOURS, the first one first");
        PencilWorks x = new PencilWorks();
        jobs(x, 5, 0, 3, 0, 5, 3, 1, 4, 2, 1);
        dueChanges(x, 0, 5);
        // with no costs even what is on does not come first: 0 1 2
        PencilWorks y = new PencilWorks();
        y.on(2);
        jobs(y, 2, 1, 0);
        dueChanges(y, 0, 2);
        // 0 2 1, 1 0 2 and 2 1 0 cost 2 each, all others more
        PencilWorks ring = withAllCosts(10);
        ring.change(0, 2, 1);
        ring.change(2, 1, 1);
        ring.change(1, 0, 1);
        jobs(ring, 2, 1, 0);
        dueChanges(ring, 2, 1);
        // 0 2 3 1 and 0 3 1 2 cost the same: the second job decides
        PencilWorks second = withAllCosts(10);
        second.on(0);
        second.change(0, 2, 1);
        second.change(2, 3, 1);
        second.change(3, 1, 1);
        second.change(0, 3, 1);
        second.change(1, 2, 1);
        jobs(second, 0, 1, 2, 3);
        dueChanges(second, 3, 1);
        // the last two decide: 0 1 2 3 and 0 1 3 2
        PencilWorks last = withAllCosts(10);
        last.on(0);
        last.change(0, 1, 0);
        last.change(1, 2, 5);
        last.change(2, 3, 5);
        last.change(1, 3, 5);
        last.change(3, 2, 5);
        jobs(last, 3, 2, 1);
        dueChanges(last, 10, 3);
        last.change(2, 3, 6);
        last.on(0);
        jobs(last, 3, 2, 1);
        dueChanges(last, 10, 2);
    }

    private static void tenJobsOfAllColours() {
        Edges.sentence("JOBS (at most 10), COLOURS 0 to 5: all spreads of ten jobs");
        int[][] spreads = {
            {10, 0, 0, 0, 0, 0}, {0, 0, 0, 0, 0, 10}, {5, 5, 0, 0, 0, 0}, {0, 0, 0, 0, 5, 5}, {2, 2, 2, 2, 1, 1},
            {1, 1, 2, 2, 2, 2}, {2, 1, 2, 1, 2, 2}, {3, 3, 1, 1, 1, 1}, {5, 1, 1, 1, 1, 1}, {1, 1, 1, 1, 1, 5}};
        for (int[] spread : spreads) {
            PencilWorks x = withAllCosts(1000);
            int colours = 0;
            int greatest = 0;
            for (int colour = 0; colour <= 5; colour++) {
                for (int i = 0; i < spread[colour]; i++) {
                    x.job(colour);
                }
                if (spread[colour] > 0) {
                    colours++;
                    greatest = colour;
                }
            }
            Edges.due(x, 10, "count", 8);
            dueChanges(x, 1000 * (colours - 1), greatest);
        }
    }
}
