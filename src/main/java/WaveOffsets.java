/**
 * Green waves along a street: one cycle for all crossings and an offset for each, chosen so that
 * the bands are widest or the fewest cars stop.
 */
public final class WaveOffsets {
    public static final int BAD = -1;

    private static final int MOST_CROSSINGS = 5;
    private static final int LEAST_GREEN = 5;
    private static final int MOST_GREEN = 90;
    private static final int SHORTEST_CYCLE = 10;
    private static final int LONGEST_CYCLE = 120;
    private static final int MOST_BY = 110;
    private static final int MOST_STEP = 60;
    private static final int MOST_SECONDS = 200;
    private static final int MOST_WEIGHT = 100;
    private static final long MOST_NODES = 200000L;
    private static final int MOST_ARRIVALS = 40;
    private static final int LAST_ARRIVAL_SECOND = 10000;
    private static final int MOST_CARS = 1000;
    private static final int LAST_COMMAND = 10000;
    private static final int HOURS = 24;
    private static final int OTHER_CYCLE_COST = 100;

    private static final int WAYS = 2;
    private static final int FORWARD = 0;
    private static final int BACKWARD = 1;
    private static final int WIDEST_BANDS = 0;
    private static final int FEWEST_STOPS = 1;

    /** Seconds of a cycle that one long holds as bits: two of them hold the longest cycle. */
    private static final int WORD = 60;
    /** Euclid's rule needs far fewer rounds for any two longs. */
    private static final int MOST_ROUNDS = 200;

    private final Road road;
    private final Search search;
    private final Plan atHand;
    private final Timetable timetable;
    private final Arrivals arrivals;

    public WaveOffsets() {
        road = new Road();
        search = new Search();
        atHand = new Plan();
        timetable = new Timetable();
        arrivals = new Arrivals();
    }

    public int crossing(int green, int least) {
        if (!within(green, LEAST_GREEN, MOST_GREEN) || least <= green
                || !within(least, SHORTEST_CYCLE, LONGEST_CYCLE) || road.isFull()) {
            return BAD;
        }
        atHand.clear();
        return road.addCrossing(green, least);
    }

    public boolean street(int a, int b, int seconds, int weight) {
        if (!road.has(a) || !road.has(b) || !within(seconds, 1, MOST_SECONDS)
                || !within(weight, 0, MOST_WEIGHT)) {
            return false;
        }
        if (b == a + 1) {
            road.tellStreet(FORWARD, a, seconds, weight);
        } else if (b == a - 1) {
            road.tellStreet(BACKWARD, a, seconds, weight);
        } else {
            return false;
        }
        atHand.clear();
        return true;
    }

    public boolean cycles(int first, int last, int by) {
        if (first < SHORTEST_CYCLE || first > last || last > LONGEST_CYCLE
                || !within(by, 1, MOST_BY)) {
            return false;
        }
        road.tellCycles(first, last, by);
        atHand.clear();
        return true;
    }

    public boolean step(int seconds) {
        if (!within(seconds, 1, MOST_STEP)) {
            return false;
        }
        road.tellStep(seconds);
        atHand.clear();
        return true;
    }

    public boolean queue(int crossing, int seconds) {
        if (!road.has(crossing) || !within(seconds, 0, road.greenOf(crossing) - 1)) {
            return false;
        }
        road.tellQueue(crossing, seconds);
        atHand.clear();
        return true;
    }

    public int run(int aim, long nodes) {
        if (!within(aim, WIDEST_BANDS, FEWEST_STOPS) || !within(nodes, 1, MOST_NODES)
                || road.size() < 2 || road.shortestCycle() == 0) {
            return BAD;
        }
        search.findBest(road, aim, nodes, atHand);
        return atHand.cycle;
    }

    public boolean proved() {
        return atHand.isMade() && atHand.sawAll;
    }

    public long bound(int part) {
        if (!isPart(part) || road.size() < 2) {
            return BAD;
        }
        int cycle = road.shortestCycle();
        if (cycle == 0) {
            return leastTerms(0, 1, part);
        }
        // What is divided is the same for all cycles, so the shortest one gives the greatest.
        long weights = road.weightOf(FORWARD) + road.weightOf(BACKWARD);
        return leastTerms(weights * road.leastOpen(), cycle, part);
    }

    public int offset(int crossing) {
        return isPlanned(crossing) ? atHand.offsetOf(crossing) : BAD;
    }

    public int green(int crossing, int phase) {
        if (!isPlanned(crossing)) {
            return BAD;
        }
        int begin = atHand.offsetOf(crossing);
        switch (phase) {
            case 0:
                return wrap(begin, atHand.cycle);
            case 1:
                return wrap(begin + road.greenOf(crossing), atHand.cycle);
            case 2:
                return wrap(begin + road.queueOf(crossing), atHand.cycle);
            default:
                return BAD;
        }
    }

    public long width(int direction, int part) {
        if (!within(direction, FORWARD, BACKWARD) || !isPart(part) || !atHand.isMade()) {
            return BAD;
        }
        return leastTerms(bandOf(direction), atHand.cycle, part);
    }

    public long stops(int part) {
        if (!isPart(part) || !atHand.isMade()) {
            return BAD;
        }
        return leastTerms(allStops(), atHand.cycle, part);
    }

    public boolean arrive(int from, int way, int second, int cars) {
        if (!road.has(from) || !within(way, FORWARD, BACKWARD)
                || !within(second, 0, LAST_ARRIVAL_SECOND) || !within(cars, 1, MOST_CARS)) {
            return false;
        }
        int to = way == FORWARD ? from + 1 : from - 1;
        return road.has(to) && arrivals.add(to, second, cars);
    }

    public long delay(int part) {
        if (!isPart(part) || !atHand.isMade()) {
            return BAD;
        }
        return part == 0 ? arrivals.secondsWaited(road, atHand) : arrivals.carsThrough(road, atHand);
    }

    public int plan(int hour) {
        if (!within(hour, 0, HOURS - 1) || !atHand.isMade()) {
            return BAD;
        }
        timetable.keep(hour, atHand);
        return timetable.planned();
    }

    public long change(int hourA, int hourB) {
        return timetable.changeCost(hourA, hourB, road.size());
    }

    public long day() {
        return timetable.dayCost(road.size());
    }

    public int command(int k, int i) {
        if (!isPlanned(k) || !within(i, 0, LAST_COMMAND)) {
            return BAD;
        }
        int begin = atHand.offsetOf(k) + (i >> 1) * atHand.cycle;
        return (i & 1) == 0 ? begin : begin + road.greenOf(k);
    }

    public boolean fits(int crossing) {
        return isPlanned(crossing) && road.leastOf(crossing) <= atHand.cycle;
    }

    public long count(int what) {
        switch (what) {
            case 0:
                return road.size();
            case 1:
                return road.allRows();
            case 2:
                return arrivals.told();
            case 3:
                return timetable.planned();
            case 4:
                return atHand.isMade() ? atHand.aim : BAD;
            default:
                return BAD;
        }
    }

    /** Whether there is a crossing of this number and a plan that gives it an offset. */
    private boolean isPlanned(int crossing) {
        return road.has(crossing) && atHand.isMade();
    }

    private int bandOf(int way) {
        long low = -1L;
        long high = -1L;
        for (int k = 0; k < road.size(); k++) {
            int start = road.openFrom(k, way, atHand.offsetOf(k), atHand.cycle);
            low &= arcBits(start, road.openOf(k), atHand.cycle, 0);
            high &= arcBits(start, road.openOf(k), atHand.cycle, WORD);
        }
        return Long.bitCount(low) + Long.bitCount(high);
    }

    private long allStops() {
        long sum = 0;
        for (int k = 1; k < road.size(); k++) {
            int apart = atHand.offsetOf(k) - atHand.offsetOf(k - 1);
            sum += road.stopsBefore(k, apart, atHand.cycle);
        }
        return sum;
    }

    private static boolean within(long value, long least, long most) {
        return value >= least && value <= most;
    }

    private static boolean isPart(int part) {
        return part == 0 || part == 1;
    }

    /** A second modulo a cycle, not below 0. */
    private static int wrap(int second, int cycle) {
        return cycle <= 0 ? 0 : Math.floorMod(second, cycle);
    }

    /** Part 0: the upper number of a fraction in least terms; 1: its lower one. */
    private static long leastTerms(long upper, long lower, int part) {
        long common = commonDivisor(upper, lower);
        if (common <= 0) {
            return BAD;
        }
        return part == 0 ? upper / common : lower / common;
    }

    private static long commonDivisor(long a, long b) {
        long greater = a;
        long lesser = b;
        for (int round = 0; lesser != 0 && round < MOST_ROUNDS; round++) {
            long rest = greater % lesser;
            greater = lesser;
            lesser = rest;
        }
        return greater;
    }

    /**
     * The seconds base .. base + WORD - 1 that lie in an arc of a cycle, as bits. The start is
     * below the cycle, the length not above it; the arc may go round the cycle's end.
     */
    private static long arcBits(int start, int length, int cycle, int base) {
        int end = start + length;
        return rangeBits(start, Math.min(end, cycle), base) | rangeBits(0, end - cycle, base);
    }

    private static long rangeBits(int from, int to, int base) {
        return from >= to ? 0L : bitsBelow(to - base) & ~bitsBelow(from - base);
    }

    private static long bitsBelow(int second) {
        return (1L << Math.max(0, Math.min(second, WORD))) - 1L;
    }

    /**
     * How many seconds two arcs of a cycle share, both shorter than it, the second of which starts
     * so many seconds (below the cycle) after the first.
     */
    private static int shared(int length, int other, int after, int cycle) {
        int inThisRound = Math.max(0, Math.min(length - after, other));
        int fromRoundBefore = Math.max(0, Math.min(length, after + other - cycle));
        return inThisRound + fromRoundBefore;
    }

    /** What was told of crossings and streets, and of the cycles and offsets to try. */
    private static final class Road {
        private final int[] greens = new int[MOST_CROSSINGS];
        private final int[] leasts = new int[MOST_CROSSINGS];
        private final int[] queues = new int[MOST_CROSSINGS];
        /** Of the streets that begin at each crossing, first all forward, then all backward. */
        private final int[] seconds = new int[WAYS * MOST_CROSSINGS];
        private final int[] weights = new int[WAYS * MOST_CROSSINGS];
        private int size;
        private int firstCycle;
        private int lastCycle;
        private int cycleBy;
        private int stepSeconds;

        Road() {
            for (int s = 0; s < seconds.length; s++) {
                seconds[s] = 1;
            }
            firstCycle = SHORTEST_CYCLE;
            lastCycle = LONGEST_CYCLE;
            cycleBy = 10;
            stepSeconds = 5;
        }

        int size() {
            return size;
        }

        boolean isFull() {
            return size >= MOST_CROSSINGS;
        }

        boolean has(int k) {
            return k >= 0 && k < size;
        }

        int addCrossing(int greenSeconds, int leastCycle) {
            if (isFull()) {
                return BAD;
            }
            greens[size] = greenSeconds;
            leasts[size] = leastCycle;
            size++;
            return size - 1;
        }

        void tellStreet(int way, int from, int goesSeconds, int carWeight) {
            if (has(from)) {
                seconds[streetAt(way, from)] = goesSeconds;
                weights[streetAt(way, from)] = carWeight;
            }
        }

        void tellQueue(int k, int queueSeconds) {
            if (has(k)) {
                queues[k] = queueSeconds;
            }
        }

        void tellCycles(int first, int last, int by) {
            firstCycle = first;
            lastCycle = last;
            cycleBy = by;
        }

        void tellStep(int toStep) {
            stepSeconds = toStep;
        }

        int greenOf(int k) {
            return has(k) ? greens[k] : 0;
        }

        int leastOf(int k) {
            return has(k) ? leasts[k] : 0;
        }

        int queueOf(int k) {
            return has(k) ? queues[k] : 0;
        }

        int openOf(int k) {
            return greenOf(k) - queueOf(k);
        }

        int stepOf() {
            return stepSeconds;
        }

        int leastOpen() {
            int least = MOST_GREEN;
            for (int k = 0; k < size; k++) {
                least = Math.min(least, openOf(k));
            }
            return least;
        }

        /** The weights of all streets of a way together. */
        int weightOf(int way) {
            int sum = 0;
            for (int k = 0; k < size; k++) {
                sum += weights[streetAt(way, k)];
            }
            return sum;
        }

        /** Whether a cycle is one of those told and no crossing's least is above it. */
        boolean tries(int cycle) {
            if (cycle < firstCycle || cycle > lastCycle || wrap(cycle - firstCycle, cycleBy) != 0) {
                return false;
            }
            for (int k = 0; k < size; k++) {
                if (leasts[k] > cycle) {
                    return false;
                }
            }
            return true;
        }

        /** The shortest cycle that is tried; 0 if none can be. */
        int shortestCycle() {
            for (int cycle = SHORTEST_CYCLE; cycle <= LONGEST_CYCLE; cycle++) {
                if (tries(cycle)) {
                    return cycle;
                }
            }
            return 0;
        }

        /** How many offsets one crossing can have. */
        int choices(int cycle) {
            return stepSeconds <= 0 ? 0 : (cycle + stepSeconds - 1) / stepSeconds;
        }

        /** How many rows of offsets there are for the crossings behind crossing k. */
        long rowsBehind(int k, int cycle) {
            long rows = 1;
            for (int behind = k + 1; behind < size; behind++) {
                rows *= choices(cycle);
            }
            return rows;
        }

        /** How many rows of offsets there are over all cycles together. */
        long allRows() {
            long rows = 0;
            for (int cycle = SHORTEST_CYCLE; cycle <= LONGEST_CYCLE && size > 0; cycle++) {
                rows += tries(cycle) ? rowsBehind(0, cycle) : 0;
            }
            return rows;
        }

        /** The second at a way's first crossing from which on cars find crossing k open. */
        int openFrom(int k, int way, int offsetSeconds, int cycle) {
            return wrap(offsetSeconds + queueOf(k) - goneTo(k, way), cycle);
        }

        /** How long a car has gone from the first crossing of its way to crossing k. */
        private int goneTo(int k, int way) {
            int gone = 0;
            if (way == FORWARD) {
                for (int from = 0; from < k && from < size; from++) {
                    gone += seconds[streetAt(FORWARD, from)];
                }
            } else {
                for (int from = size - 1; from > k && from > 0; from--) {
                    gone += seconds[streetAt(BACKWARD, from)];
                }
            }
            return gone;
        }

        /**
         * The stops of both streets between crossing k and the one before it, whose offset is so
         * many seconds less.
         */
        int stopsBefore(int k, int apart, int cycle) {
            int before = k - 1;
            if (!has(before) || !has(k)) {
                return 0;
            }
            int forward = streetAt(FORWARD, before);
            int backward = streetAt(BACKWARD, k);
            int opensAfter = apart + queues[k] - queues[before];
            int forwardAfter = wrap(opensAfter - seconds[forward], cycle);
            int backwardAfter = wrap(-opensAfter - seconds[backward], cycle);
            int forwardThrough = shared(openOf(before), openOf(k), forwardAfter, cycle);
            int backwardThrough = shared(openOf(k), openOf(before), backwardAfter, cycle);
            return weights[forward] * (openOf(before) - forwardThrough)
                    + weights[backward] * (openOf(k) - backwardThrough);
        }

        private static int streetAt(int way, int from) {
            return way == FORWARD ? from : MOST_CROSSINGS + from;
        }
    }

    /** A cycle and an offset for each crossing; none as long as the cycle is 0. */
    private static final class Plan {
        private final int[] offsets = new int[MOST_CROSSINGS];
        private int cycle;
        private int size;
        private int aim;
        private boolean sawAll;

        Plan() {
        }

        boolean isMade() {
            return cycle > 0;
        }

        void clear() {
            cycle = 0;
        }

        int offsetOf(int k) {
            return k >= 0 && k < MOST_CROSSINGS ? offsets[k] : 0;
        }

        void set(int newCycle, int newSize, int[] row) {
            cycle = newCycle;
            size = newSize;
            for (int k = 0; k < MOST_CROSSINGS && k < row.length; k++) {
                offsets[k] = row[k];
            }
        }

        /** The lesser ways round from this plan's offsets to another's, in the other's cycle. */
        int turnsTo(Plan other) {
            int sum = 0;
            for (int k = 0; k < size && k < MOST_CROSSINGS; k++) {
                int ahead = wrap(other.offsets[k] - offsets[k], other.cycle);
                sum += Math.min(ahead, other.cycle - ahead);
            }
            return sum;
        }
    }

    /** What a row of offsets is worth; a greater score is better. */
    private abstract static class Worth {
        /** Makes ready for a road's rows of a cycle. */
        abstract void begin(Road road, int cycle);

        /**
         * Puts crossing k at its offset of this choice, behind those that were put before it: the
         * score that no row which begins so is above; with the last crossing, that row's score.
         */
        abstract long put(int k, int choice);
    }

    /** Aim 0: both bands times their weights. */
    private static final class BandWorth extends Worth {
        /** For each crossing, way and choice, when it is open, counted at the way's first crossing. */
        private final long[] openLow = new long[MOST_CROSSINGS * WAYS * LONGEST_CYCLE];
        private final long[] openHigh = new long[MOST_CROSSINGS * WAYS * LONGEST_CYCLE];
        /** For each crossing and way, when it and all before it are open. */
        private final long[] bandLow = new long[MOST_CROSSINGS * WAYS];
        private final long[] bandHigh = new long[MOST_CROSSINGS * WAYS];
        private final int[] wayWeights = new int[WAYS];

        BandWorth() {
        }

        void begin(Road road, int cycle) {
            for (int way = 0; way < WAYS; way++) {
                wayWeights[way] = road.weightOf(way);
                for (int k = 0; k < road.size() && k < MOST_CROSSINGS; k++) {
                    fillOpen(road, k, way, cycle);
                }
            }
        }

        private void fillOpen(Road road, int k, int way, int cycle) {
            int length = road.openOf(k);
            int start = road.openFrom(k, way, 0, cycle);
            int row = (k * WAYS + way) * LONGEST_CYCLE;
            int choices = road.choices(cycle);
            for (int choice = 0; choice < choices && choice < LONGEST_CYCLE; choice++) {
                openLow[row + choice] = arcBits(start, length, cycle, 0);
                openHigh[row + choice] = arcBits(start, length, cycle, WORD);
                start = wrap(start + road.stepOf(), cycle);
            }
        }

        long put(int k, int choice) {
            if (!within(k, 0, MOST_CROSSINGS - 1) || !within(choice, 0, LONGEST_CYCLE - 1)) {
                return 0;
            }
            long score = 0;
            for (int way = 0; way < WAYS; way++) {
                int at = k * WAYS + way;
                long low = openLow[at * LONGEST_CYCLE + choice];
                long high = openHigh[at * LONGEST_CYCLE + choice];
                if (k > 0) {
                    low &= bandLow[at - WAYS];
                    high &= bandHigh[at - WAYS];
                }
                bandLow[at] = low;
                bandHigh[at] = high;
                score += (long) wayWeights[way] * (Long.bitCount(low) + Long.bitCount(high));
            }
            return score;
        }
    }

    /** Aim 1: the stops, below 0 because fewer are better. */
    private static final class StopWorth extends Worth {
        /** For each crossing and seconds from the offset before it to its own, the stops between. */
        private final int[] stopsApart = new int[MOST_CROSSINGS * LONGEST_CYCLE];
        /** For each crossing, the stops up to it. */
        private final long[] stopsTo = new long[MOST_CROSSINGS];
        private final int[] offsets = new int[MOST_CROSSINGS];
        private int cycle;
        private int stepSeconds;

        StopWorth() {
        }

        void begin(Road road, int newCycle) {
            cycle = newCycle;
            stepSeconds = road.stepOf();
            for (int k = 1; k < road.size() && k < MOST_CROSSINGS; k++) {
                for (int apart = 0; apart < cycle && apart < LONGEST_CYCLE; apart++) {
                    stopsApart[k * LONGEST_CYCLE + apart] = road.stopsBefore(k, apart, cycle);
                }
            }
        }

        long put(int k, int choice) {
            if (!within(k, 0, MOST_CROSSINGS - 1)) {
                return 0;
            }
            offsets[k] = choice * stepSeconds;
            if (k == 0) {
                stopsTo[k] = 0;
            } else {
                int apart = wrap(offsets[k] - offsets[k - 1], Math.min(cycle, LONGEST_CYCLE));
                stopsTo[k] = stopsTo[k - 1] + stopsApart[k * LONGEST_CYCLE + apart];
            }
            return -stopsTo[k];
        }
    }

    /** Goes through rows of offsets in order and keeps the first of the best. */
    private static final class Search {
        private final BandWorth bandWorth = new BandWorth();
        private final StopWorth stopWorth = new StopWorth();
        private final int[] row = new int[MOST_CROSSINGS];
        private final long[] rowsBehind = new long[MOST_CROSSINGS];
        private int size;
        private int cycle;
        private int choices;
        private int stepSeconds;
        private long rowsLeft;
        private long bestScore;

        Search() {
        }

        void findBest(Road road, int aim, long nodes, Plan best) {
            Worth worth = aim == WIDEST_BANDS ? bandWorth : stopWorth;
            best.clear();
            best.aim = aim;
            best.sawAll = road.allRows() <= nodes;
            rowsLeft = nodes;
            for (int c = SHORTEST_CYCLE; c <= LONGEST_CYCLE && rowsLeft > 0; c++) {
                if (road.tries(c)) {
                    begin(road, c);
                    worth.begin(road, c);
                    putFrom(0, worth, best);
                }
            }
        }

        private void begin(Road road, int newCycle) {
            size = road.size();
            cycle = newCycle;
            choices = road.choices(newCycle);
            stepSeconds = road.stepOf();
            for (int k = 0; k < MOST_CROSSINGS; k++) {
                rowsBehind[k] = road.rowsBehind(k, newCycle);
            }
        }

        /** Tries all offsets of crossing k and of those behind it, with those before it as put. */
        private void putFrom(int k, Worth worth, Plan best) {
            if (!within(k, 0, MOST_CROSSINGS - 1)) {
                return;
            }
            int choicesHere = k == 0 ? 1 : choices;
            for (int choice = 0; choice < choicesHere && rowsLeft > 0; choice++) {
                row[k] = choice * stepSeconds;
                long score = worth.put(k, choice);
                if (!beats(score, best)) {
                    // No row that begins so can be better: they count as looked at.
                    rowsLeft -= rowsBehind[k];
                } else if (k < size - 1) {
                    putFrom(k + 1, worth, best);
                } else {
                    rowsLeft--;
                    best.set(cycle, size, row);
                    bestScore = score;
                }
            }
        }

        /** Whether a score divided by this cycle is greater than the best one divided by its own. */
        private boolean beats(long score, Plan best) {
            return !best.isMade() || score * best.cycle > bestScore * cycle;
        }
    }

    /** The plans of the hours. */
    private static final class Timetable {
        private final Plan[] plans = new Plan[HOURS];

        Timetable() {
        }

        void keep(int hour, Plan plan) {
            if (!within(hour, 0, HOURS - 1)) {
                return;
            }
            Plan kept = plans[hour];
            if (kept == null) {
                kept = new Plan();
                plans[hour] = kept;
            }
            kept.set(plan.cycle, plan.size, plan.offsets);
        }

        int planned() {
            int hours = 0;
            for (int hour = 0; hour < HOURS; hour++) {
                hours += plans[hour] == null ? 0 : 1;
            }
            return hours;
        }

        long changeCost(int hourA, int hourB, int crossings) {
            if (!within(hourA, 0, HOURS - 1) || !within(hourB, 0, HOURS - 1)) {
                return BAD;
            }
            Plan a = plans[hourA];
            Plan b = plans[hourB];
            if (a == null || b == null || a.size != crossings || b.size != crossings) {
                return BAD;
            }
            return a.turnsTo(b) + (a.cycle == b.cycle ? 0 : OTHER_CYCLE_COST);
        }

        long dayCost(int crossings) {
            if (planned() < 2) {
                return 0;
            }
            long sum = 0;
            int before = lastPlanned();
            for (int hour = 0; hour < HOURS; hour++) {
                if (plans[hour] != null) {
                    long cost = changeCost(before, hour, crossings);
                    if (cost == BAD) {
                        return BAD;
                    }
                    sum += cost;
                    before = hour;
                }
            }
            return sum;
        }

        private int lastPlanned() {
            int last = BAD;
            for (int hour = 0; hour < HOURS; hour++) {
                last = plans[hour] == null ? last : hour;
            }
            return last;
        }
    }

    /** The cars that were told to come to crossings. */
    private static final class Arrivals {
        private final int[] crossings = new int[MOST_ARRIVALS];
        private final int[] seconds = new int[MOST_ARRIVALS];
        private final int[] cars = new int[MOST_ARRIVALS];
        private int size;

        Arrivals() {
        }

        int told() {
            return size;
        }

        boolean add(int toCrossing, int atSecond, int manyCars) {
            if (size >= MOST_ARRIVALS) {
                return false;
            }
            crossings[size] = toCrossing;
            seconds[size] = atSecond;
            cars[size] = manyCars;
            size++;
            return true;
        }

        long secondsWaited(Road road, Plan plan) {
            long sum = 0;
            for (int i = 0; i < size && i < MOST_ARRIVALS; i++) {
                sum += (long) cars[i] * waitOf(i, road, plan);
            }
            return sum;
        }

        long carsThrough(Road road, Plan plan) {
            long sum = 0;
            for (int i = 0; i < size && i < MOST_ARRIVALS; i++) {
                sum += waitOf(i, road, plan) == 0 ? cars[i] : 0;
            }
            return sum;
        }

        /** How long the cars of the i-th arrival wait until their crossing is open. */
        private int waitOf(int i, Road road, Plan plan) {
            int k = crossings[i];
            int openFrom = plan.offsetOf(k) + road.queueOf(k);
            int sinceOpen = wrap(seconds[i] - openFrom, plan.cycle);
            return sinceOpen < road.openOf(k) ? 0 : plan.cycle - sinceOpen;
        }
    }
}
