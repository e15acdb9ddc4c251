/** Roads and plans that many tests begin with. */
final class Roads {
    static final int LOW = Integer.MIN_VALUE;
    static final int HIGH = Integer.MAX_VALUE;
    /** The most rows that a run may look at. */
    static final long ALL = 200000L;

    private Roads() {
    }

    static WaveOffsets crossings(int many, int green, int least) {
        WaveOffsets x = new WaveOffsets();
        for (int k = 0; k < many; k++) {
            Check.due("crossing(" + green + ", " + least + ")", k, x.crossing(green, least));
        }
        return x;
    }

    /**
     * Two crossings with 30 seconds of 60 green and 25 seconds each way. Offset o of crossing 1
     * gives the forward band 30 - |o - 25| and the backward band 30 - |o - 35|: o = 30 is best.
     */
    static WaveOffsets pair() {
        WaveOffsets x = crossings(2, 30, 60);
        x.cycles(60, 60, 1);
        x.step(10);
        x.street(0, 1, 25, 1);
        x.street(1, 0, 25, 1);
        return x;
    }

    /** The pair with its best plan at hand: offset 30, proved. */
    static WaveOffsets plannedPair() {
        WaveOffsets x = pair();
        Check.due("run(0, 200000)", 60, x.run(0, ALL));
        return x;
    }

    /** As many crossings as offsets, all with this green, and with these offsets at hand. */
    static WaveOffsets placed(int green, int cycle, int step, int... offsets) {
        WaveOffsets x = crossings(offsets.length, green, green < 10 ? 10 : green + 1);
        place(x, cycle, step, offsets);
        return x;
    }

    /**
     * Puts these offsets at hand. Cars go forward alone, from each green's begin to the next one's:
     * with crossings that are open for as long as one another, any other row has a narrower band.
     */
    static void place(WaveOffsets x, int cycle, int step, int... offsets) {
        x.cycles(cycle, cycle, 1);
        x.step(step);
        for (int k = 1; k < offsets.length; k++) {
            int seconds = Math.floorMod(offsets[k] - offsets[k - 1], cycle);
            x.street(k - 1, k, seconds == 0 ? cycle : seconds, 1);
            x.street(k, k - 1, 1, 0);
        }
        Check.due("run(0, 200000)", cycle, x.run(0, ALL));
        for (int k = 0; k < offsets.length; k++) {
            Check.due("offset(" + k + ")", offsets[k], x.offset(k));
        }
    }

    /** Looks that nothing is at hand: every call that asks for the plan says so. */
    static void dueNothingAtHand(String after, WaveOffsets x) {
        Check.due(after + ": proved()", false, x.proved());
        Check.due(after + ": offset(0)", -1, x.offset(0));
        Check.due(after + ": green(0, 0)", -1, x.green(0, 0));
        Check.due(after + ": green(0, 1)", -1, x.green(0, 1));
        Check.due(after + ": green(0, 2)", -1, x.green(0, 2));
        Check.due(after + ": width(0, 0)", -1, x.width(0, 0));
        Check.due(after + ": width(1, 1)", -1, x.width(1, 1));
        Check.due(after + ": stops(0)", -1, x.stops(0));
        Check.due(after + ": stops(1)", -1, x.stops(1));
        Check.due(after + ": delay(0)", -1, x.delay(0));
        Check.due(after + ": delay(1)", -1, x.delay(1));
        Check.due(after + ": plan(3)", -1, x.plan(3));
        Check.due(after + ": command(0, 0)", -1, x.command(0, 0));
        Check.due(after + ": fits(0)", false, x.fits(0));
        Check.due(after + ": count(4)", -1, x.count(4));
    }

    /** Looks that the best plan of the pair is still at hand. */
    static void duePairsPlan(String after, WaveOffsets x) {
        Check.due(after + ": proved()", true, x.proved());
        Check.due(after + ": offset(0)", 0, x.offset(0));
        Check.due(after + ": offset(1)", 30, x.offset(1));
        Check.due(after + ": green(1, 0)", 30, x.green(1, 0));
        Check.due(after + ": width(0, 0)", 5, x.width(0, 0));
        Check.due(after + ": width(0, 1)", 12, x.width(0, 1));
        Check.due(after + ": stops(0)", 1, x.stops(0));
        Check.due(after + ": stops(1)", 6, x.stops(1));
        Check.due(after + ": command(1, 2)", 90, x.command(1, 2));
        Check.due(after + ": fits(1)", true, x.fits(1));
        Check.due(after + ": count(4)", 0, x.count(4));
    }

    static void dueFraction(String what, long upper, long lower, long gotUpper, long gotLower) {
        Check.due(what + ", upper", upper, gotUpper);
        Check.due(what + ", lower", lower, gotLower);
    }
}
