import java.util.ArrayList;
import java.util.List;
import java.util.NoSuchElementException;
import java.util.Random;

/** Long runs of drawn calls, the same ones each time, beside a model that tries out everything there is to try. */
public final class ReferenceTest {
    private static final int RUNS = 400;
    private static final int CALLS = 512;
    private static final int INDEX = -1001;
    private static final int ARGUMENT = -1002;
    private static final int UNSUPPORTED = -1003;
    private static final int NO_ELEMENT = -1004;

    /** The document's words, as plainly as they can be put; exceptions are numbers below -1000. */
    private static final class Model {
        final List<int[]> earths = new ArrayList<>();
        final List<int[]> lots = new ArrayList<>();
        final List<int[]> batches = new ArrayList<>();
        final List<int[]> trials = new ArrayList<>();
        final List<int[]> grades = new ArrayList<>();
        final List<Integer> jobs = new ArrayList<>();
        final int[] slats = new int[10];
        final int[][] cost = new int[6][6];
        int today;
        int on = -1;

        static boolean in(int v, int a, int b) {
            return a <= v && v <= b;
        }

        int earth(int low, int high, int price, int has) {
            if (!in(low, 0, 1000) || !in(high, 0, 1000) || low > high || !in(price, 1, 1000) || !in(has, 0, 1000)) {
                return ARGUMENT;
            }
            if (earths.size() == 6) {
                return UNSUPPORTED;
            }
            earths.add(new int[] {low, high, price, has});
            return earths.size() - 1;
        }

        int bring(int earth, int parts) {
            if (!in(earth, 0, earths.size() - 1)) {
                return INDEX;
            }
            if (!in(parts, 0, 1000) || earths.get(earth)[3] + parts > 1000) {
                return ARGUMENT;
            }
            return earths.get(earth)[3] += parts;
        }

        /** Price, low, high, then the parts of each earth; null without a blend. */
        int[] best(int a, int b) {
            int[] best = null;
            int[] parts = new int[6];
            for (int code = 0; code < 11 * 11 * 11 * 11 * 11; code++) {
                int rest = code;
                int sum = 0;
                for (int e = 4; e >= 0; e--) {
                    parts[e] = rest % 11;
                    rest /= 11;
                    sum += parts[e];
                }
                parts[5] = 10 - sum;
                int[] blend = sum > 10 ? null : blendOf(parts);
                if (blend != null && blend[1] >= a && blend[2] <= b && (best == null || blend[0] < best[0])) {
                    best = blend;
                }
            }
            return best;
        }

        int[] blendOf(int[] parts) {
            int[] blend = new int[9];
            int low = 0;
            int high = 0;
            for (int e = 0; e < 6; e++) {
                if (parts[e] > (e < earths.size() ? earths.get(e)[3] : 0)) {
                    return null;
                }
                if (e < earths.size()) {
                    low += parts[e] * earths.get(e)[0];
                    high += parts[e] * earths.get(e)[1];
                    blend[0] += parts[e] * earths.get(e)[2];
                }
                blend[3 + e] = parts[e];
            }
            blend[1] = (int) Math.floor(low / 10.0);
            blend[2] = (int) Math.ceil(high / 10.0);
            return blend;
        }

        static boolean grade(int a, int b) {
            return in(a, 0, 1000) && in(b, 0, 1000) && a <= b;
        }

        int blend(int a, int b) {
            if (!grade(a, b)) {
                return ARGUMENT;
            }
            int[] best = best(a, b);
            return best == null ? -1 : best[0];
        }

        int parts(int a, int b, int earth) {
            if (!in(earth, 0, earths.size() - 1)) {
                return INDEX;
            }
            if (!grade(a, b)) {
                return ARGUMENT;
            }
            int[] best = best(a, b);
            return best == null ? -1 : best[3 + earth];
        }

        int cores(int a, int b) {
            if (!grade(a, b)) {
                return ARGUMENT;
            }
            int[] best = best(a, b);
            if (best == null || lots.size() == 12) {
                return -1;
            }
            for (int e = 0; e < earths.size(); e++) {
                earths.get(e)[3] -= best[3 + e];
            }
            lots.add(new int[] {0, 40, best[1], best[2]});
            return lots.size() - 1;
        }

        int lot(int kind, int pieces) {
            if (!in(kind, 1, 2) || !in(pieces, 0, 10000)) {
                return ARGUMENT;
            }
            if (lots.size() == 12) {
                return UNSUPPORTED;
            }
            lots.add(new int[] {kind, pieces, -1, -1});
            return lots.size() - 1;
        }

        int make(int core, int slat, int lacquer, int n) {
            int[] of = {core, slat, lacquer};
            for (int l : of) {
                if (!in(l, 0, lots.size() - 1)) {
                    return INDEX;
                }
            }
            boolean enough = true;
            for (int k = 0; k < 3; k++) {
                if (lots.get(of[k])[0] != k) {
                    return ARGUMENT;
                }
                enough &= lots.get(of[k])[1] >= n;
            }
            if (!in(n, 1, 1000)) {
                return ARGUMENT;
            }
            if (!enough || batches.size() == 60) {
                return -1;
            }
            for (int l : of) {
                lots.get(l)[1] -= n;
            }
            batches.add(new int[] {core, slat, lacquer, n});
            return batches.size() - 1;
        }

        static boolean isOf(int[] batch, int lot) {
            return batch[0] == lot || batch[1] == lot || batch[2] == lot;
        }

        boolean did(int batch, int broke, int day) {
            for (int[] t : trials) {
                if (t[0] == batch && t[1] == broke && t[2] <= day && !(t[3] >= 0 && t[3] <= day)) {
                    return true;
                }
            }
            return false;
        }

        int look(int lot, int what) {
            if (!in(lot, 0, lots.size() - 1)) {
                return INDEX;
            }
            if (!in(what, 0, 5)) {
                return NO_ELEMENT;
            }
            int made = 0;
            int broke = 0;
            for (int b = 0; b < batches.size(); b++) {
                if (isOf(batches.get(b), lot)) {
                    made += batches.get(b)[3];
                    broke += did(b, 1, today) ? 1 : 0;
                }
            }
            int[] l = lots.get(lot);
            return new int[] {l[0], l[1], made, l[2], l[3], broke}[what];
        }

        int trial(int batch, int broke) {
            if (!in(batch, 0, batches.size() - 1)) {
                return INDEX;
            }
            if (trials.size() == 100) {
                return -1;
            }
            trials.add(new int[] {batch, broke, today, -1});
            return trials.size() - 1;
        }

        int undo(int trial) {
            if (!in(trial, 0, trials.size() - 1)) {
                return INDEX;
            }
            if (trials.get(trial)[3] >= 0) {
                return 0;
            }
            trials.get(trial)[3] = today;
            return 1;
        }

        int days(int n) {
            if (!in(n, 0, 100)) {
                return ARGUMENT;
            }
            for (int i = 0; i < n && today < 1000; i++) {
                today++;
            }
            return today;
        }

        int explain(int day, int what) {
            if (!in(what, 0, 2)) {
                return NO_ELEMENT;
            }
            boolean[] broke = new boolean[batches.size()];
            boolean[] held = new boolean[batches.size()];
            for (int b = 0; b < batches.size(); b++) {
                broke[b] = did(b, 1, day);
                held[b] = did(b, 0, day);
            }
            int fewest = 99;
            int ways = 0;
            int sure = 0;
            for (int set = 0; set < 1 << lots.size(); set++) {
                int size = Integer.bitCount(set);
                if (size > fewest || !explains(set, broke, held)) {
                    continue;
                }
                if (size < fewest) {
                    fewest = size;
                    ways = 0;
                    sure = -1;
                }
                ways++;
                sure &= set;
            }
            return new int[] {fewest == 99 ? -1 : fewest, ways, sure}[what];
        }

        boolean explains(int set, boolean[] broke, boolean[] held) {
            for (int b = 0; b < broke.length; b++) {
                boolean has = false;
                for (int k = 0; k < 3; k++) {
                    has |= (set >> batches.get(b)[k]) % 2 == 1;
                }
                if (broke[b] && !has || held[b] && has) {
                    return false;
                }
            }
            return true;
        }

        int allSlats() {
            int sum = 0;
            for (int s : slats) {
                sum += s;
            }
            return sum;
        }

        int slats(int quality, int n) {
            if (!in(quality, 0, 9) || !in(n, 0, 200)) {
                return ARGUMENT;
            }
            slats[quality] = n;
            return allSlats();
        }

        int grade(int least, int worth, int room) {
            if (!in(least, 0, 9) || !in(worth, 1, 1000) || !in(room, 0, 500)) {
                return ARGUMENT;
            }
            if (grades.size() == 6) {
                return -1;
            }
            grades.add(new int[] {least, worth, room});
            return grades.size() - 1;
        }

        /**
         * A greatest flow of greatest worth, pushed along the dearest path as long as one is worth something.
         * Places: 0 where slats come from, 1 to 10 qualities, 11 to 16 grades, 17 where they go.
         */
        int most() {
            int[][] room = new int[18][18];
            int[][] worth = new int[18][18];
            for (int q = 0; q < 10; q++) {
                room[0][1 + q] = slats[q];
                for (int g = 0; g < grades.size(); g++) {
                    room[1 + q][11 + g] = q >= grades.get(g)[0] ? 10000 : 0;
                }
            }
            for (int g = 0; g < grades.size(); g++) {
                room[11 + g][17] = grades.get(g)[2];
                worth[11 + g][17] = grades.get(g)[1];
                worth[17][11 + g] = -grades.get(g)[1];
            }
            int sum = 0;
            while (true) {
                int[] far = new int[18];
                int[] from = new int[18];
                java.util.Arrays.fill(far, -1000000);
                far[0] = 0;
                for (int round = 0; round < 18; round++) {
                    for (int u = 0; u < 18; u++) {
                        for (int v = 0; v < 18; v++) {
                            if (far[u] > -1000000 && room[u][v] > 0 && far[u] + worth[u][v] > far[v]) {
                                far[v] = far[u] + worth[u][v];
                                from[v] = u;
                            }
                        }
                    }
                }
                if (far[17] <= 0) {
                    return sum;
                }
                int flow = 100000;
                for (int v = 17; v != 0; v = from[v]) {
                    flow = Math.min(flow, room[from[v]][v]);
                }
                for (int v = 17; v != 0; v = from[v]) {
                    room[from[v]][v] -= flow;
                    room[v][from[v]] += flow;
                }
                sum += flow * far[17];
            }
        }

        int change(int from, int to, int c) {
            if (!in(from, 0, 5) || !in(to, 0, 5)) {
                return INDEX;
            }
            if (!in(c, 0, 1000) || from == to) {
                return ARGUMENT;
            }
            cost[from][to] = c;
            return 0;
        }

        int job(int colour) {
            if (!in(colour, 0, 5)) {
                return INDEX;
            }
            if (jobs.size() == 10) {
                return -1;
            }
            jobs.add(colour);
            return jobs.size();
        }

        int on(int colour) {
            if (!in(colour, -1, 5)) {
                return INDEX;
            }
            on = colour;
            return 0;
        }

        private int leastSum;
        private int lastColour;

        int changes() {
            if (jobs.isEmpty()) {
                return 0;
            }
            leastSum = Integer.MAX_VALUE;
            int[] left = new int[6];
            for (int j : jobs) {
                left[j]++;
            }
            allOrders(left, jobs.size(), on, 0);
            jobs.clear();
            on = lastColour;
            return leastSum;
        }

        /** Orders come with the least colours first. */
        void allOrders(int[] left, int n, int before, int sum) {
            if (n == 0) {
                if (sum < leastSum) {
                    leastSum = sum;
                    lastColour = before;
                }
                return;
            }
            for (int c = 0; c < 6; c++) {
                if (left[c] > 0) {
                    left[c]--;
                    allOrders(left, n - 1, c, sum + (before < 0 ? 0 : cost[before][c]));
                    left[c]++;
                }
            }
        }

        int count(int what) {
            int pencils = 0;
            for (int[] b : batches) {
                pencils += b[3];
            }
            int[] counts = {today, earths.size(), lots.size(), batches.size(), pencils, trials.size(), allSlats(),
                grades.size(), jobs.size(), on};
            return in(what, 0, 9) ? counts[what] : -1;
        }
    }

    private final Random random;
    private final PencilWorks works = new PencilWorks();
    private final Model model = new Model();
    /** A run's own ways: how tight hardnesses, prices and costs lie, so that ties and edges come often. */
    private final int wide;
    private int dearCalls;
    /** Of 10 trials so many break: where most do, there is more to explain. */
    private final int breaks;

    private ReferenceTest(long seed) {
        random = new Random(seed);
        int[] widths = {3, 12, 60, 1000};
        wide = widths[random.nextInt(widths.length)];
        breaks = 4 + random.nextInt(6);
    }

    /** Twelve lots from the start, so that most of the run is batches, trials and what explains them. */
    private int wrongAtStart() {
        int wrong = fromWorks(0, new int[] {5, 9, 2, 1000}) == model.earth(5, 9, 2, 1000) ? 0 : 1;
        int coreLots = 2 + random.nextInt(4);
        int slatLots = 2 + random.nextInt(4);
        for (int i = 0; i < 12; i++) {
            int[] a = {i < coreLots + slatLots ? 1 : 2, 10000};
            boolean isCore = i < coreLots;
            int want = isCore ? model.cores(0, 1000) : model.lot(a[0], a[1]);
            int got = isCore ? fromWorks(4, new int[] {0, 1000}) : fromWorks(5, a);
            wrong += got == want ? 0 : 1;
        }
        return wrong;
    }

    private int draw(int least, int greatest) {
        if (random.nextInt(40) == 0) {
            int[] odd = {least - 1, greatest + 1, least, greatest, Integer.MIN_VALUE, Integer.MAX_VALUE};
            return odd[random.nextInt(odd.length)];
        }
        return least + random.nextInt(Math.max(1, greatest - least + 1));
    }

    private int lotOfKind(int kind) {
        if (random.nextInt(30) != 0) {
            for (int tries = 0; tries < 30; tries++) {
                int lot = random.nextInt(Math.max(1, model.lots.size()));
                if (lot < model.lots.size() && model.lots.get(lot)[0] == kind) {
                    return lot;
                }
            }
        }
        return draw(0, model.lots.size() - 1);
    }

    private int[] args(int method) {
        switch (method) {
            case 0: {
                int low = draw(0, wide);
                return new int[] {low, low + random.nextInt(wide / 3 + 1), draw(1, wide), random.nextInt(3) == 0
                    ? draw(0, 1000) : draw(0, 12)};
            }
            case 1:
                return new int[] {draw(0, model.earths.size() - 1), random.nextInt(20) == 0 ? draw(0, 1000) : draw(0, 9)};
            case 2:
            case 3:
            case 4: {
                int a = draw(0, wide / 2);
                int b = random.nextInt(10) == 0 ? draw(0, wide) : a + random.nextInt(wide + 1);
                return new int[] {a, Math.max(b, -5), draw(0, model.earths.size() - 1)};
            }
            case 5:
                return new int[] {draw(1, 2), random.nextInt(5) == 0 ? draw(0, 20) : draw(0, 10000)};
            case 6:
                return new int[] {lotOfKind(0), lotOfKind(1), lotOfKind(2), random.nextInt(4) == 0
                    ? draw(1, 1000) : draw(1, 4)};
            case 7:
                return new int[] {draw(0, model.lots.size() - 1), draw(0, 5)};
            case 8:
                return new int[] {draw(0, model.batches.size() - 1), random.nextInt(10) < breaks ? 1 : 0};
            case 9:
                return new int[] {draw(0, model.trials.size() - 1)};
            case 10:
                return new int[] {random.nextInt(10) == 0 ? draw(0, 100) : draw(0, 3)};
            case 11:
                return new int[] {draw(-1, model.today + 2), draw(0, 2)};
            case 12:
                return new int[] {draw(0, 9), random.nextInt(2) == 0 ? draw(0, 200) : draw(0, 5)};
            case 13:
                return new int[] {draw(0, 9), draw(1, wide), random.nextInt(2) == 0 ? draw(0, 500) : draw(0, 9)};
            case 16:
                return new int[] {draw(0, 5), draw(0, 5), draw(0, wide)};
            case 17:
                return new int[] {draw(0, 5)};
            case 18:
                return new int[] {draw(-1, 5)};
            default:
                return new int[] {draw(-1, 10)};
        }
    }

    private int fromModel(int method, int[] a) {
        switch (method) {
            case 0: return model.earth(a[0], a[1], a[2], a[3]);
            case 1: return model.bring(a[0], a[1]);
            case 2: return model.blend(a[0], a[1]);
            case 3: return model.parts(a[0], a[1], a[2]);
            case 4: return model.cores(a[0], a[1]);
            case 5: return model.lot(a[0], a[1]);
            case 6: return model.make(a[0], a[1], a[2], a[3]);
            case 7: return model.look(a[0], a[1]);
            case 8: return model.trial(a[0], a[1]);
            case 9: return model.undo(a[0]);
            case 10: return model.days(a[0]);
            case 11: return model.explain(a[0], a[1]);
            case 12: return model.slats(a[0], a[1]);
            case 13: return model.grade(a[0], a[1], a[2]);
            case 14: {
                int were = model.grades.size();
                model.grades.clear();
                return were;
            }
            case 15: return model.most();
            case 16: return model.change(a[0], a[1], a[2]);
            case 17: return model.job(a[0]);
            case 18: return model.on(a[0]);
            case 19: return model.changes();
            default: return model.count(a[0]);
        }
    }

    private int called(int method, int[] a) {
        switch (method) {
            case 0: return works.earth(a[0], a[1], a[2], a[3]);
            case 1: return works.bring(a[0], a[1]);
            case 2: return works.blend(a[0], a[1]);
            case 3: return works.parts(a[0], a[1], a[2]);
            case 4: return works.cores(a[0], a[1]);
            case 5: return works.lot(a[0], a[1]);
            case 6: return works.make(a[0], a[1], a[2], a[3]);
            case 7: return works.look(a[0], a[1]);
            case 8: return works.trial(a[0], a[1] == 1);
            case 9: return works.undo(a[0]) ? 1 : 0;
            case 10: return works.days(a[0]);
            case 11: return works.explain(a[0], a[1]);
            case 12: return works.slats(a[0], a[1]);
            case 13: return works.grade(a[0], a[1], a[2]);
            case 14: return works.ungrade();
            case 15: return works.most();
            case 16: works.change(a[0], a[1], a[2]); return 0;
            case 17: return works.job(a[0]);
            case 18: works.on(a[0]); return 0;
            case 19: return works.changes();
            default: return works.count(a[0]);
        }
    }

    private int fromWorks(int method, int[] a) {
        try {
            return called(method, a);
        } catch (RuntimeException e) {
            if (e.getClass() == IndexOutOfBoundsException.class) {
                return INDEX;
            } else if (e.getClass() == IllegalArgumentException.class) {
                return ARGUMENT;
            } else if (e.getClass() == UnsupportedOperationException.class) {
                return UNSUPPORTED;
            } else if (e.getClass() == NoSuchElementException.class) {
                return NO_ELEMENT;
            }
            e.printStackTrace(System.out);
            return -9999;
        }
    }

    private static final String[] NAMES = {"earth", "bring", "blend", "parts", "cores", "lot", "make", "look", "trial",
        "undo", "days", "explain", "slats", "grade", "ungrade", "most", "change", "job", "on", "changes", "count"};
    /** How often each method comes, of the sum of all. */
    private static final int[] OFTEN = {4, 4, 4, 4, 3, 3, 14, 8, 12, 4, 5, 14, 6, 5, 1, 6, 9, 14, 2, 2, 6};

    private int drawMethod() {
        int sum = 0;
        for (int o : OFTEN) {
            sum += o;
        }
        int at = random.nextInt(sum);
        int method = 0;
        while (at >= OFTEN[method]) {
            at -= OFTEN[method];
            method++;
        }
        // the model tries 161051 blends for each of these
        if (method >= 2 && method <= 4 && ++dearCalls > 40) {
            return 6;
        }
        return method;
    }

    private int wrongAnswers(int run) {
        int wrong = run % 2 == 0 ? 0 : wrongAtStart();
        for (int i = 0; i < CALLS - 13; i++) {
            int method = drawMethod();
            int[] a = args(method);
            int want = fromModel(method, a);
            int got = fromWorks(method, a);
            seen[method][want < -1000 ? 2 : want == -1 ? 1 : 0]++;
            if (got != want) {
                wrong++;
                System.out.println("run " + run + ", call " + i + ": " + NAMES[method] + java.util.Arrays.toString(a)
                    + " answered " + got + ", due is " + want);
            }
        }
        return wrong;
    }

    private static final int[][] seen = new int[21][3];

    public static void main(String[] args) {
        int wrong = 0;
        for (int run = 0; run < RUNS && wrong < 20; run++) {
            wrong += new ReferenceTest(run).wrongAnswers(run);
        }
        for (int m = 0; args.length > 0 && m < NAMES.length; m++) {
            System.out.println(NAMES[m] + ": " + seen[m][0] + " answered, " + seen[m][1] + " NONE, " + seen[m][2] + " threw");
        }
        System.out.println(RUNS + " runs beside the model, " + wrong + " wrong answers");
        if (wrong != 0) {
            System.exit(1);
        }
    }
}
