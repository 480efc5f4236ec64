import java.util.NoSuchElementException;

/** Pencil works: earths and blends, lots and batches, trials and bad lots, graded slats, and the lacquer machine. */
public final class PencilWorks {
    public static final int NONE = -1;

    private static final int MOST_EARTHS = 6;
    private static final int MOST_HARDNESS = 1000;
    private static final int MOST_PRICE = 1000;
    private static final int MOST_HAS = 1000;
    private static final int BLEND_PARTS = 10;

    private static final int CORE = 0;
    private static final int SLAT = 1;
    private static final int LACQUER = 2;
    private static final int MOST_LOTS = 12;
    private static final int MOST_PIECES = 10000;
    private static final int BLEND_PIECES = 40;
    private static final int MOST_BATCHES = 60;
    private static final int MOST_PENCILS = 1000;

    private static final int MOST_TRIALS = 100;
    private static final int LAST_DAY = 1000;
    private static final int MOST_DAYS = 100;

    private static final int QUALITIES = 10;
    private static final int MOST_SLATS = 200;
    private static final int MOST_GRADES = 6;
    private static final int MOST_WORTH = 1000;
    private static final int MOST_ROOM = 500;

    private static final int COLOURS = 6;
    private static final int MOST_COST = 1000;
    private static final int MOST_JOBS = 10;
    /** Ten jobs of six colours leave the most states as 2, 2, 2, 2, 1 and 1 of them: 3 * 3 * 3 * 3 * 2 * 2. */
    private static final int MOST_STATES = 324;

    private final Earths earths;
    private final Lots lots;
    private final Trials trials;
    private final Blame blame;
    private final Grades grades;
    private final Machine machine;

    public PencilWorks() {
        earths = new Earths();
        lots = new Lots();
        trials = new Trials();
        blame = new Blame();
        grades = new Grades();
        machine = new Machine();
    }

    public int earth(int low, int high, int price, int has)
            throws IllegalArgumentException, UnsupportedOperationException {
        if (!isSpan(low, high) || !isWithin(price, 1, MOST_PRICE) || !isWithin(has, 0, MOST_HAS)) {
            throw new IllegalArgumentException("an earth's number is none");
        }
        if (earths.number >= MOST_EARTHS) {
            throw new UnsupportedOperationException("there are 6 earths");
        }
        return earths.add(low, high, price, has);
    }

    public int bring(int earth, int parts) throws IndexOutOfBoundsException, IllegalArgumentException {
        if (!isNumberOf(earth, earths.number)) {
            throw new IndexOutOfBoundsException("no such earth");
        }
        if (!isWithin(parts, 0, MOST_HAS) || earths.has[earth] + parts > MOST_HAS) {
            throw new IllegalArgumentException("parts are not 0 to 1000, or too many");
        }
        earths.has[earth] += parts;
        return earths.has[earth];
    }

    public int blend(int a, int b) throws IllegalArgumentException {
        if (!isSpan(a, b)) {
            throw new IllegalArgumentException("not a grade");
        }
        earths.seek(a, b);
        return earths.bestPrice;
    }

    public int parts(int a, int b, int earth) throws IndexOutOfBoundsException, IllegalArgumentException {
        if (!isNumberOf(earth, earths.number)) {
            throw new IndexOutOfBoundsException("no such earth");
        }
        if (!isSpan(a, b)) {
            throw new IllegalArgumentException("not a grade");
        }
        earths.seek(a, b);
        return earths.bestPrice == NONE ? NONE : earths.best[earth];
    }

    public int cores(int a, int b) throws IllegalArgumentException {
        if (!isSpan(a, b)) {
            throw new IllegalArgumentException("not a grade");
        }
        if (lots.number >= MOST_LOTS) {
            return NONE;
        }
        earths.seek(a, b);
        if (earths.bestPrice == NONE) {
            return NONE;
        }
        earths.takeBest();
        return lots.add(CORE, BLEND_PIECES, earths.bestLow, earths.bestHigh);
    }

    public int lot(int kind, int pieces) throws IllegalArgumentException, UnsupportedOperationException {
        if ((kind != SLAT && kind != LACQUER) || !isWithin(pieces, 0, MOST_PIECES)) {
            throw new IllegalArgumentException("kind or pieces are none");
        }
        if (lots.number >= MOST_LOTS) {
            throw new UnsupportedOperationException("there are 12 lots");
        }
        return lots.add(kind, pieces, NONE, NONE);
    }

    public int make(int core, int slat, int lacquer, int n)
            throws IndexOutOfBoundsException, IllegalArgumentException {
        if (!isNumberOf(core, lots.number) || !isNumberOf(slat, lots.number) || !isNumberOf(lacquer, lots.number)) {
            throw new IndexOutOfBoundsException("no such lot");
        }
        if (!isWithin(n, 1, MOST_PENCILS) || !lots.areOfTheirKinds(core, slat, lacquer)) {
            throw new IllegalArgumentException("n is none, or a lot is of another kind");
        }
        if (lots.batches >= MOST_BATCHES || !lots.haveAll(core, slat, lacquer, n)) {
            return NONE;
        }
        return lots.addBatch(core, slat, lacquer, n);
    }

    public int look(int lot, int what) throws IndexOutOfBoundsException, NoSuchElementException {
        if (!isNumberOf(lot, lots.number)) {
            throw new IndexOutOfBoundsException("no such lot");
        }
        switch (what) {
            case 0:
                return lots.kind[lot];
            case 1:
                return lots.pieces[lot];
            case 2:
                return lots.used[lot];
            case 3:
                return lots.low[lot];
            case 4:
                return lots.high[lot];
            case 5:
                return lots.batchesOf(lot, trials.batchesThat(true, trials.today));
            default:
                throw new NoSuchElementException("no such what");
        }
    }

    public int trial(int batch, boolean broke) throws IndexOutOfBoundsException {
        if (!isNumberOf(batch, lots.batches)) {
            throw new IndexOutOfBoundsException("no such batch");
        }
        return trials.number >= MOST_TRIALS ? NONE : trials.add(batch, broke);
    }

    public boolean undo(int trial) throws IndexOutOfBoundsException {
        if (!isNumberOf(trial, trials.number)) {
            throw new IndexOutOfBoundsException("no such trial");
        }
        return trials.takeBack(trial);
    }

    public int days(int n) throws IllegalArgumentException {
        if (!isWithin(n, 0, MOST_DAYS)) {
            throw new IllegalArgumentException("days are not 0 to 100");
        }
        trials.today = Math.min(trials.today + n, LAST_DAY);
        return trials.today;
    }

    public int explain(int day, int what) throws NoSuchElementException {
        if (!isWithin(what, 0, 2)) {
            throw new NoSuchElementException("no such what");
        }
        blame.seek(lots, trials.batchesThat(true, day), trials.batchesThat(false, day));
        if (what == 0) {
            return blame.fewest;
        }
        return what == 1 ? blame.ways : blame.sure;
    }

    public int slats(int quality, int n) throws IllegalArgumentException {
        if (!isWithin(quality, 0, QUALITIES - 1) || !isWithin(n, 0, MOST_SLATS)) {
            throw new IllegalArgumentException("a number is none");
        }
        return grades.putSlats(quality, n);
    }

    public int grade(int least, int worth, int room) throws IllegalArgumentException {
        if (!isWithin(least, 0, QUALITIES - 1) || !isWithin(worth, 1, MOST_WORTH) || !isWithin(room, 0, MOST_ROOM)) {
            throw new IllegalArgumentException("a number is none");
        }
        return grades.number >= MOST_GRADES ? NONE : grades.add(least, worth, room);
    }

    public int ungrade() {
        int were = grades.number;
        grades.number = 0;
        return were;
    }

    public int most() {
        return grades.greatestWorth();
    }

    public void change(int from, int to, int cost) throws IndexOutOfBoundsException, IllegalArgumentException {
        if (!isNumberOf(from, COLOURS) || !isNumberOf(to, COLOURS)) {
            throw new IndexOutOfBoundsException("no such colour");
        }
        if (!isWithin(cost, 0, MOST_COST) || from == to) {
            throw new IllegalArgumentException("the cost is none, or the colours are one");
        }
        machine.costs[from * COLOURS + to] = cost;
    }

    public int job(int colour) throws IndexOutOfBoundsException {
        if (!isNumberOf(colour, COLOURS)) {
            throw new IndexOutOfBoundsException("no such colour");
        }
        return machine.jobs >= MOST_JOBS ? NONE : machine.add(colour);
    }

    public void on(int colour) throws IndexOutOfBoundsException {
        if (colour != NONE && !isNumberOf(colour, COLOURS)) {
            throw new IndexOutOfBoundsException("no such colour");
        }
        machine.colour = colour;
    }

    public int changes() {
        return machine.runJobs();
    }

    public int count(int what) {
        switch (what) {
            case 0:
                return trials.today;
            case 1:
                return earths.number;
            case 2:
                return lots.number;
            case 3:
                return lots.batches;
            case 4:
                return lots.pencils;
            case 5:
                return trials.number;
            case 6:
                return grades.slatsInAll;
            case 7:
                return grades.number;
            case 8:
                return machine.jobs;
            case 9:
                return machine.colour;
            default:
                return NONE;
        }
    }

    private static boolean isWithin(int value, int least, int greatest) {
        return value >= least && value <= greatest;
    }

    private static boolean isNumberOf(int index, int number) {
        return index >= 0 && index < number;
    }

    private static boolean isSpan(int low, int high) {
        return 0 <= low && low <= high && high <= MOST_HARDNESS;
    }

    /** The earths, and the search for the best blend of them. */
    private static final class Earths {
        final int[] low = new int[MOST_EARTHS];
        final int[] high = new int[MOST_EARTHS];
        final int[] price = new int[MOST_EARTHS];
        final int[] has = new int[MOST_EARTHS];
        int number;

        final int[] best = new int[MOST_EARTHS];
        int bestPrice = NONE;
        int bestLow;
        int bestHigh;

        private final int[] chosen = new int[MOST_EARTHS];
        private int leastLows;
        private int mostHighs;

        /** Of an earth and all behind it; the last element stands for "no earth is left". */
        private final int[] partsFrom = new int[MOST_EARTHS + 1];
        private final int[] leastPriceFrom = new int[MOST_EARTHS + 1];
        private final int[] mostLowFrom = new int[MOST_EARTHS + 1];
        private final int[] leastHighFrom = new int[MOST_EARTHS + 1];

        int add(int itsLow, int itsHigh, int itsPrice, int itsParts) {
            int earth = number;
            low[earth] = itsLow;
            high[earth] = itsHigh;
            price[earth] = itsPrice;
            has[earth] = itsParts;
            number++;
            return earth;
        }

        /** Leaves the best blend in best, bestLow, bestHigh and bestPrice, which is NONE without one. */
        void seek(int a, int b) {
            bestPrice = NONE;
            // a low that is rounded down is not below a just when the sum is not below ten times a; a high likewise
            leastLows = a * BLEND_PARTS;
            mostHighs = b * BLEND_PARTS;
            setBounds();
            choose(0, BLEND_PARTS, 0, 0, 0);
        }

        void takeBest() {
            for (int earth = 0; earth < number; earth++) {
                has[earth] -= best[earth];
            }
        }

        private void setBounds() {
            partsFrom[number] = 0;
            leastPriceFrom[number] = MOST_PRICE;
            mostLowFrom[number] = 0;
            leastHighFrom[number] = MOST_HARDNESS;
            for (int earth = number - 1; earth >= 0; earth--) {
                partsFrom[earth] = partsFrom[earth + 1] + has[earth];
                leastPriceFrom[earth] = Math.min(leastPriceFrom[earth + 1], price[earth]);
                mostLowFrom[earth] = Math.max(mostLowFrom[earth + 1], low[earth]);
                leastHighFrom[earth] = Math.min(leastHighFrom[earth + 1], high[earth]);
            }
        }

        private void choose(int earth, int left, int cost, int lows, int highs) {
            if (!mayBeBetter(earth, left, cost, lows, highs)) {
                return;
            }
            if (earth >= number) {
                keep(cost, lows, highs);
            } else {
                chooseParts(earth, left, cost, lows, highs);
            }
        }

        /** Blends come with the fewest parts of earth 0 first, then of 1: so of one price the first is the best. */
        private void chooseParts(int earth, int left, int cost, int lows, int highs) {
            int most = Math.min(left, has[earth]);
            for (int n = 0; n <= most; n++) {
                chosen[earth] = n;
                choose(earth + 1, left - n, cost + n * price[earth], lows + n * low[earth], highs + n * high[earth]);
            }
        }

        private boolean mayBeBetter(int earth, int left, int cost, int lows, int highs) {
            return left <= partsFrom[earth]
                    && (bestPrice == NONE || cost + left * leastPriceFrom[earth] < bestPrice)
                    && lows + left * mostLowFrom[earth] >= leastLows
                    && highs + left * leastHighFrom[earth] <= mostHighs;
        }

        private void keep(int cost, int lows, int highs) {
            bestPrice = cost;
            bestLow = lows / BLEND_PARTS;
            bestHigh = (highs + BLEND_PARTS - 1) / BLEND_PARTS;
            for (int earth = 0; earth < number; earth++) {
                best[earth] = chosen[earth];
            }
        }
    }

    /** The lots, and the batches of pencils that are made of them. */
    private static final class Lots {
        final int[] kind = new int[MOST_LOTS];
        final int[] pieces = new int[MOST_LOTS];
        final int[] used = new int[MOST_LOTS];
        final int[] low = new int[MOST_LOTS];
        final int[] high = new int[MOST_LOTS];
        int number;

        /** The three lots of a batch, as bits. */
        final int[] lotsOfBatch = new int[MOST_BATCHES];
        int batches;
        int pencils;

        int add(int itsKind, int itsPieces, int itsLow, int itsHigh) {
            int lot = number;
            kind[lot] = itsKind;
            pieces[lot] = itsPieces;
            low[lot] = itsLow;
            high[lot] = itsHigh;
            number++;
            return lot;
        }

        boolean areOfTheirKinds(int core, int slat, int lacquer) {
            return kind[core] == CORE && kind[slat] == SLAT && kind[lacquer] == LACQUER;
        }

        boolean haveAll(int core, int slat, int lacquer, int n) {
            return pieces[core] >= n && pieces[slat] >= n && pieces[lacquer] >= n;
        }

        int addBatch(int core, int slat, int lacquer, int n) {
            use(core, n);
            use(slat, n);
            use(lacquer, n);
            pencils += n;
            int batch = batches;
            lotsOfBatch[batch] = 1 << core | 1 << slat | 1 << lacquer;
            batches++;
            return batch;
        }

        private void use(int lot, int n) {
            pieces[lot] -= n;
            used[lot] += n;
        }

        /** How many of some batches, given as bits, are of a lot. */
        int batchesOf(int lot, long some) {
            int found = 0;
            for (int batch = 0; batch < batches; batch++) {
                if ((some >> batch & 1) != 0 && (lotsOfBatch[batch] >> lot & 1) != 0) {
                    found++;
                }
            }
            return found;
        }

        /** All lots, as bits, of some batches, given as bits. */
        int lotsOf(long some) {
            int found = 0;
            for (int batch = 0; batch < batches; batch++) {
                if ((some >> batch & 1) != 0) {
                    found |= lotsOfBatch[batch];
                }
            }
            return found;
        }
    }

    /** The trials, and the day on which each was told and taken back. */
    private static final class Trials {
        private final int[] batch = new int[MOST_TRIALS];
        private final boolean[] broke = new boolean[MOST_TRIALS];
        private final int[] told = new int[MOST_TRIALS];
        private final int[] takenBack = new int[MOST_TRIALS];
        int number;
        int today;

        int add(int itsBatch, boolean itBroke) {
            int trial = number;
            batch[trial] = itsBatch;
            broke[trial] = itBroke;
            told[trial] = today;
            takenBack[trial] = NONE;
            number++;
            return trial;
        }

        boolean takeBack(int trial) {
            if (takenBack[trial] != NONE) {
                return false;
            }
            takenBack[trial] = today;
            return true;
        }

        /** The batches, as bits, of which a pencil broke, or of which one held, as known on a day. */
        long batchesThat(boolean itBroke, int day) {
            long found = 0;
            for (int trial = 0; trial < number; trial++) {
                if (broke[trial] == itBroke && isKnown(trial, day)) {
                    found |= 1L << batch[trial];
                }
            }
            return found;
        }

        private boolean isKnown(int trial, int day) {
            return told[trial] <= day && (takenBack[trial] == NONE || day < takenBack[trial]);
        }
    }

    /** The search for the fewest lots that explain what broke. */
    private static final class Blame {
        int fewest;
        int ways;
        int sure;

        /** Of each batch that broke the lots, as bits, that are in no batch that held. */
        private final int[] suspects = new int[MOST_BATCHES];
        private int broken;

        void seek(Lots lots, long batchesBroken, long batchesHeld) {
            fewest = NONE;
            ways = 0;
            sure = 0;
            setSuspects(lots, batchesBroken, lots.lotsOf(batchesHeld));
            blameMore(0, 0, 0);
        }

        private void setSuspects(Lots lots, long batchesBroken, int good) {
            broken = 0;
            for (int batch = 0; batch < lots.batches; batch++) {
                if ((batchesBroken >> batch & 1) != 0) {
                    suspects[broken] = lots.lotsOfBatch[batch] & ~good;
                    broken++;
                }
            }
        }

        private void blameMore(int blamed, int cleared, int size) {
            int open = firstUnexplained(blamed);
            if (open == NONE) {
                keep(blamed, size);
            } else if (size < MOST_LOTS && (fewest == NONE || size < fewest)) {
                blameEach(open, blamed, cleared, size);
            }
        }

        /**
         * Each lot of a batch that is not explained yet is blamed in turn, and cleared for the turns behind it:
         * so no set comes twice, and each of the fewest comes once.
         */
        private void blameEach(int open, int blamed, int cleared, int size) {
            int passed = cleared;
            for (int lot = 0; lot < MOST_LOTS; lot++) {
                int bit = 1 << lot;
                if ((open & ~passed & bit) != 0) {
                    blameMore(blamed | bit, passed, size + 1);
                    passed |= bit;
                }
            }
        }

        private int firstUnexplained(int blamed) {
            for (int i = 0; i < broken; i++) {
                if ((suspects[i] & blamed) == 0) {
                    return suspects[i];
                }
            }
            return NONE;
        }

        private void keep(int blamed, int size) {
            if (fewest == NONE || size < fewest) {
                fewest = size;
                ways = 1;
                sure = blamed;
            } else if (size == fewest) {
                ways++;
                sure &= blamed;
            }
        }
    }

    /** The slats by quality, and the grades, those of the greatest worth first. */
    private static final class Grades {
        private final int[] slatsOf = new int[QUALITIES];
        int slatsInAll;

        private final int[] least = new int[MOST_GRADES];
        private final int[] worth = new int[MOST_GRADES];
        private final int[] room = new int[MOST_GRADES];
        int number;

        private final int[] free = new int[QUALITIES];

        int putSlats(int quality, int n) {
            slatsInAll += n - slatsOf[quality];
            slatsOf[quality] = n;
            return slatsInAll;
        }

        int add(int itsLeast, int itsWorth, int itsRoom) {
            int place = number;
            while (place > 0 && worth[place - 1] < itsWorth) {
                least[place] = least[place - 1];
                worth[place] = worth[place - 1];
                room[place] = room[place - 1];
                place--;
            }
            least[place] = itsLeast;
            worth[place] = itsWorth;
            room[place] = itsRoom;
            number++;
            return number - 1;
        }

        /**
         * The dearest grade is filled first, with the lowest slats that will do: a slat that a later grade
         * lacks could then never be had by moving an earlier one, so filling in this order is worth most.
         */
        int greatestWorth() {
            for (int quality = 0; quality < QUALITIES; quality++) {
                free[quality] = slatsOf[quality];
            }
            int sum = 0;
            for (int grade = 0; grade < number; grade++) {
                sum += worth[grade] * fill(grade);
            }
            return sum;
        }

        private int fill(int grade) {
            int filled = 0;
            for (int quality = least[grade]; quality < QUALITIES; quality++) {
                int taken = Math.min(free[quality], room[grade] - filled);
                free[quality] -= taken;
                filled += taken;
            }
            return filled;
        }
    }

    /** The lacquer machine: what a change costs, the jobs that wait, and the colour that is on. */
    private static final class Machine {
        /** By the colour before, then the colour behind; the last row, all 0, is for no colour before. */
        final int[] costs = new int[(COLOURS + 1) * COLOURS];
        int jobs;
        int colour = NONE;

        private final int[] jobsOf = new int[COLOURS];

        /** A state is the number of jobs of each colour that are left, each times its weight, summed up. */
        private final int[] weight = new int[COLOURS];
        private final int[] left = new int[COLOURS];
        /** By the state, then the colour before: the least cost of all that is left. */
        private final int[] leastCost = new int[MOST_STATES * COLOURS];

        int add(int itsColour) {
            jobsOf[itsColour]++;
            jobs++;
            return jobs;
        }

        int runJobs() {
            int states = setWeights();
            for (int state = 1; state < states; state++) {
                setLeft(state);
                for (int before = 0; before < COLOURS; before++) {
                    leastCost[state * COLOURS + before] = costThrough(state, before, bestNext(state, before));
                }
            }
            int cost = walkBestOrder(states - 1);
            clearJobs();
            return cost;
        }

        /** Answers how many states there are. */
        private int setWeights() {
            int states = 1;
            for (int c = 0; c < COLOURS; c++) {
                weight[c] = states;
                states *= jobsOf[c] + 1;
            }
            return Math.min(states, MOST_STATES);
        }

        private void setLeft(int state) {
            int rest = state;
            for (int c = COLOURS - 1; c >= 0; c--) {
                int n = 0;
                while (n < jobsOf[c] && rest >= weight[c]) {
                    rest -= weight[c];
                    n++;
                }
                left[c] = n;
            }
        }

        /** The least colour with which a cheapest order of what is left begins; NONE if nothing is left. */
        private int bestNext(int state, int before) {
            int best = NONE;
            int bestCost = 0;
            for (int next = 0; next < COLOURS; next++) {
                if (left[next] > 0) {
                    int cost = costThrough(state, before, next);
                    if (best == NONE || cost < bestCost) {
                        best = next;
                        bestCost = cost;
                    }
                }
            }
            return best;
        }

        private int costThrough(int state, int before, int next) {
            if (next == NONE) {
                return 0;
            }
            return costs[before * COLOURS + next] + leastCost[(state - weight[next]) * COLOURS + next];
        }

        /** Puts the last colour of the order on the machine, and answers what the order costs. */
        private int walkBestOrder(int full) {
            int cost = 0;
            int state = full;
            for (int done = 0; done < jobs; done++) {
                setLeft(state);
                int before = colour == NONE ? COLOURS : colour;
                int next = bestNext(state, before);
                if (next == NONE) {
                    break;
                }
                cost += costs[before * COLOURS + next];
                state -= weight[next];
                colour = next;
            }
            return cost;
        }

        private void clearJobs() {
            jobs = 0;
            for (int c = 0; c < COLOURS; c++) {
                jobsOf[c] = 0;
            }
        }
    }
}
