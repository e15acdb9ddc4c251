/** Promise 7: run, with what the terms say of aims, of equal rows and of the search's order. */
public final class Promise07RunTest {
    public static void main(String[] args) {
        Check.run(Promise07RunTest.class);
    }

    static void aimBelow0IsNone() {
        WaveOffsets x = Roads.pair();
        Check.due("run(-1, 1)", -1, x.run(-1, 1L));
        Check.due("run(LOW, 1)", -1, x.run(Roads.LOW, 1L));
        Roads.dueNothingAtHand("refused", x);
    }

    static void aims0And1Are() {
        WaveOffsets x = Roads.pair();
        Check.due("run(0, 1)", 60, x.run(0, 1L));
        Check.due("run(1, 1)", 60, x.run(1, 1L));
    }

    static void aimAbove1IsNone() {
        WaveOffsets x = Roads.pair();
        Check.due("run(2, 1)", -1, x.run(2, 1L));
        Check.due("run(HIGH, 1)", -1, x.run(Roads.HIGH, 1L));
        Roads.dueNothingAtHand("refused", x);
    }

    static void nodesBelow1AreNone() {
        WaveOffsets x = Roads.pair();
        for (int aim = 0; aim < 2; aim++) {
            Check.due("run with 0", -1, x.run(aim, 0L));
            Check.due("run with -1", -1, x.run(aim, -1L));
            Check.due("run with the least long", -1, x.run(aim, Long.MIN_VALUE));
            Check.due("run with -2^32 + 1", -1, x.run(aim, 1L - (1L << 32)));
        }
        Roads.dueNothingAtHand("refused", x);
    }

    static void nodesOf1Are() {
        WaveOffsets x = Roads.pair();
        Check.due("run(0, 1)", 60, x.run(0, 1L));
        Check.due("offset(1)", 0, x.offset(1));
    }

    static void nodesOf200000Are() {
        WaveOffsets x = Roads.pair();
        Check.due("run(0, 200000)", 60, x.run(0, 200000L));
        Check.due("run(1, 200000)", 60, x.run(1, 200000L));
    }

    static void nodesAbove200000AreNone() {
        WaveOffsets x = Roads.pair();
        for (int aim = 0; aim < 2; aim++) {
            Check.due("run with 200001", -1, x.run(aim, 200001L));
            Check.due("run with the greatest int", -1, x.run(aim, Roads.HIGH));
            Check.due("run with 2^32 + 1", -1, x.run(aim, (1L << 32) + 1L));
            Check.due("run with the greatest long", -1, x.run(aim, Long.MAX_VALUE));
        }
        Roads.dueNothingAtHand("refused", x);
    }

    static void fewerThanTwoCrossingsAreNotEnough() {
        WaveOffsets x = new WaveOffsets();
        Check.due("run without crossings", -1, x.run(0, 1L));
        Check.due("aim 1 without crossings", -1, x.run(1, 1L));
        x.crossing(30, 60);
        Check.due("run with one", -1, x.run(0, 1L));
        Check.due("aim 1 with one", -1, x.run(1, 1L));
        Roads.dueNothingAtHand("refused", x);
        x.crossing(30, 60);
        Check.due("run with two", 60, x.run(0, 1L));
    }

    static void noCycleCanBe() {
        WaveOffsets x = Roads.crossings(2, 30, 60);
        x.cycles(10, 59, 1);
        Check.due("run(0, 1)", -1, x.run(0, 1L));
        Check.due("run(1, 200000)", -1, x.run(1, Roads.ALL));
        Roads.dueNothingAtHand("refused", x);
    }

    static void cycleOfTheLeastCanBe() {
        WaveOffsets x = Roads.crossings(2, 30, 60);
        x.cycles(10, 60, 1);
        Check.due("run(0, 200000)", 60, x.run(0, Roads.ALL));
        Check.due("rows of 60 alone, by 5", 12, x.count(1));
    }

    static void cyclesBelowAnyCrossingsLeastAreLeftOut() {
        int[][] leasts = {{70, 60, 50}, {60, 70, 50}, {50, 60, 70}};
        for (int[] l : leasts) {
            WaveOffsets x = new WaveOffsets();
            for (int least : l) {
                x.crossing(30, least);
            }
            Check.due("the greatest least is 70", 70, x.run(0, 1L));
        }
    }

    static void looksAtTheFirstRowsAlone() {
        int[] best = {0, 10, 20, 30, 30, 30, 30};
        for (int aim = 0; aim < 2; aim++) {
            WaveOffsets x = Roads.pair();
            for (int n = 1; n <= best.length; n++) {
                Check.due("run(" + aim + ", " + n + ")", 60, x.run(aim, n));
                Check.due("best of " + n, best[n - 1], x.offset(1));
            }
        }
    }

    static void lastRowOfAllIsLookedAt() {
        for (int aim = 0; aim < 2; aim++) {
            WaveOffsets x = Roads.placed(20, 60, 1, 0, 59);
            x.run(aim, 59L);
            Check.due("best of 59: 0 is as near to 59 as 58", 0, x.offset(1));
            Roads.dueFraction("19 of 60", 19, 60, x.width(0, 0), x.width(0, 1));
            x.run(aim, 60L);
            Check.due("best of 60", 59, x.offset(1));
            Roads.dueFraction("20 of 60", 1, 3, x.width(0, 0), x.width(0, 1));
        }
    }

    static void offsetOfTheLastCrossingChangesFirst() {
        // With offset 0 of crossing 1 at most 20 seconds go through (crossing 2 at 30 or 40); all 30
        // do with 10 and 40, in row 6 + 5.
        WaveOffsets x = Roads.crossings(3, 30, 60);
        x.cycles(60, 60, 1);
        x.step(10);
        x.street(0, 1, 10, 1);
        x.street(1, 2, 30, 1);
        int[][] rows = {{1, 0, 0}, {3, 0, 20}, {4, 0, 30}, {6, 0, 30}, {10, 0, 30}, {11, 10, 40}, {36, 10, 40}};
        for (int[] r : rows) {
            x.run(0, r[0]);
            Check.due(r[0] + " rows: offset(1)", r[1], x.offset(1));
            Check.due(r[0] + " rows: offset(2)", r[2], x.offset(2));
        }
    }

    static void nodesGoOverAllCyclesTogether() {
        WaveOffsets x = Roads.pair();
        x.street(1, 0, 25, 0);
        x.cycles(60, 70, 10);
        // 5 of 60 stop at best; in the ninth row, the third of 70, it is 5 of 70.
        Check.due("aim 1, eight rows", 60, x.run(1, 8L));
        Check.due("aim 1, eight rows: offset", 20, x.offset(1));
        Check.due("aim 1, nine rows", 70, x.run(1, 9L));
        Check.due("aim 1, nine rows: offset", 20, x.offset(1));
        Roads.dueFraction("stops", 1, 14, x.stops(0), x.stops(1));
    }

    static void leastCycleComesFirst() {
        WaveOffsets x = Roads.crossings(2, 10, 60);
        x.step(60);
        x.street(0, 1, 65, 1);
        x.cycles(60, 70, 5);
        Check.due("one row", 60, x.run(0, 1L));
        Roads.dueFraction("5 of 60", 1, 12, x.width(0, 0), x.width(0, 1));
        x.cycles(60, 65, 5);
        Check.due("60 has one offset: the second row is of 65", 65, x.run(0, 2L));
        Roads.dueFraction("10 of 65", 2, 13, x.width(0, 0), x.width(0, 1));
    }

    static void greatestBandIsDividedByTheCycle() {
        WaveOffsets x = Roads.pair();
        x.street(1, 0, 25, 0);
        x.cycles(60, 70, 10);
        Check.due("25 of 60 before 25 of 70", 60, x.run(0, Roads.ALL));
        // Offset 0 is all that 60 has; 70 has 60, too.
        x = Roads.crossings(2, 30, 60);
        x.cycles(60, 70, 10);
        x.step(60);
        x.street(0, 1, 65, 1);
        Check.due("30 - 5 of 60 or 30 - 5 of 70", 60, x.run(0, Roads.ALL));
        x.street(0, 1, 69, 1);
        Check.due("30 - 9 of 60 or 30 - 1 of 70", 70, x.run(0, Roads.ALL));
    }

    static void fewestStopsAreDividedByTheCycle() {
        WaveOffsets x = Roads.crossings(2, 30, 60);
        x.cycles(60, 70, 10);
        x.step(60);
        // 5 of 60 and 5 of 70 (offset 60 or 0) stop.
        x.street(0, 1, 65, 1);
        Check.due("5 of 70 before 5 of 60", 70, x.run(1, Roads.ALL));
        Roads.dueFraction("stops", 1, 14, x.stops(0), x.stops(1));
        x.street(0, 1, 61, 1);
        // 1 of 60, and of 70 1 with offset 60.
        Check.due("1 of 70 before 1 of 60", 70, x.run(1, Roads.ALL));
        Check.due("offset(1)", 60, x.offset(1));
    }

    static void ofEqualBandsTheLesserCycleIsBetter() {
        // 15 of 60 go through with offset 45, and 30 of 120 with offset 90.
        WaveOffsets x = Roads.crossings(2, 30, 60);
        x.cycles(60, 120, 60);
        x.step(45);
        x.street(0, 1, 90, 1);
        Check.due("run(0, 200000)", 60, x.run(0, Roads.ALL));
        Check.due("offset(1)", 45, x.offset(1));
        Roads.dueFraction("width(0)", 1, 4, x.width(0, 0), x.width(0, 1));
        x.cycles(120, 120, 1);
        Check.due("120 alone", 120, x.run(0, Roads.ALL));
        Roads.dueFraction("as wide", 1, 4, x.width(0, 0), x.width(0, 1));
    }

    static void longerCycleIsBetterByHoweverLittle() {
        // 15 of 60 go through with offset 44, and 31 of 120 with offset 88.
        WaveOffsets x = Roads.crossings(2, 31, 60);
        x.cycles(60, 120, 60);
        x.step(44);
        x.street(0, 1, 88, 1);
        Check.due("run(0, 200000)", 120, x.run(0, Roads.ALL));
        Check.due("offset(1)", 88, x.offset(1));
        Roads.dueFraction("width(0)", 31, 120, x.width(0, 0), x.width(0, 1));
        // 5 of 60 stop with offset 0, and 9 of 120 with offset 56.
        x.step(56);
        x.street(0, 1, 65, 1);
        Check.due("run(1, 200000)", 120, x.run(1, Roads.ALL));
        Check.due("offset(1)", 56, x.offset(1));
        Roads.dueFraction("stops", 3, 40, x.stops(0), x.stops(1));
    }

    static void ofEqualStopsTheLesserCycleIsBetter() {
        WaveOffsets x = Roads.pair();
        x.cycles(60, 120, 60);
        x.street(0, 1, 20, 1);
        x.street(1, 0, 40, 0);
        Check.due("nobody stops in both", 60, x.run(1, Roads.ALL));
        Check.due("offset(1)", 20, x.offset(1));
        // 5 of 60 stop with offset 0, and 10 of 120 with offset 55.
        x.step(55);
        x.street(0, 1, 65, 1);
        Check.due("as many stop in both", 60, x.run(1, Roads.ALL));
        Check.due("offset(1)", 0, x.offset(1));
        Roads.dueFraction("stops", 1, 12, x.stops(0), x.stops(1));
        x.cycles(120, 120, 1);
        Check.due("120 alone", 120, x.run(1, Roads.ALL));
        Roads.dueFraction("as many", 1, 12, x.stops(0), x.stops(1));
    }

    static void ofEqualRowsTheLesserOffsetIsBetter() {
        WaveOffsets x = Roads.pair();
        x.street(1, 0, 25, 0);
        for (int aim = 0; aim < 2; aim++) {
            x.run(aim, Roads.ALL);
            Check.due("20 and 30 are as near to 25", 20, x.offset(1));
        }
    }

    static void ofEqualRowsALesserOffsetTellsBeforeALaterOne() {
        // 5 seconds are lost with 10 and 50, and with 20 and 0.
        for (int aim = 0; aim < 2; aim++) {
            WaveOffsets x = Roads.crossings(3, 30, 60);
            x.cycles(60, 60, 1);
            x.step(10);
            x.street(0, 1, 15, 1);
            x.street(1, 2, 40, 1);
            x.run(aim, Roads.ALL);
            Check.due("offset(1)", 10, x.offset(1));
            Check.due("offset(2)", 50, x.offset(2));
            Roads.dueFraction("width(0)", 5, 12, x.width(0, 0), x.width(0, 1));
            Roads.dueFraction("stops", 1, 12, x.stops(0), x.stops(1));
        }
    }

    static void ofEqualRowsTheFirstUnlikeOffsetTells() {
        // 10 of 100 stop with 20 and 40, 20 and 50, 30 and 50, 30 and 60.
        WaveOffsets x = Roads.crossings(3, 30, 100);
        x.cycles(100, 100, 1);
        x.step(10);
        x.street(0, 1, 25, 1);
        x.street(1, 2, 25, 1);
        x.run(1, Roads.ALL);
        Check.due("offset(1)", 20, x.offset(1));
        Check.due("offset(2)", 40, x.offset(2));
        Roads.dueFraction("stops", 1, 10, x.stops(0), x.stops(1));
    }

    static void rowsWorthNothingAreEqual() {
        WaveOffsets x = new WaveOffsets();
        x.crossing(30, 50);
        x.crossing(30, 60);
        x.crossing(30, 40);
        for (int aim = 0; aim < 2; aim++) {
            Check.due("the least cycle", 60, x.run(aim, Roads.ALL));
            Check.due("offset(1)", 0, x.offset(1));
            Check.due("offset(2)", 0, x.offset(2));
        }
    }

    static void rowsWithoutABandAreAPlanToo() {
        WaveOffsets x = Roads.crossings(2, 10, 60);
        x.cycles(60, 60, 1);
        x.step(60);
        x.street(0, 1, 30, 5);
        Check.due("run(0, 200000)", 60, x.run(0, Roads.ALL));
        Roads.dueFraction("width(0)", 0, 1, x.width(0, 0), x.width(0, 1));
        Check.due("run(1, 200000)", 60, x.run(1, Roads.ALL));
        Roads.dueFraction("stops: 5 * 10", 5, 6, x.stops(0), x.stops(1));
    }

    static void bandsCountByTheirWeights() {
        for (int aim = 0; aim < 2; aim++) {
            WaveOffsets x = Roads.pair();
            x.step(5);
            x.street(0, 1, 25, 3);
            x.street(1, 0, 25, 2);
            x.run(aim, Roads.ALL);
            Check.due("forward counts for more", 25, x.offset(1));
            x.street(1, 0, 25, 4);
            x.run(aim, Roads.ALL);
            Check.due("backward counts for more", 35, x.offset(1));
        }
    }

    static void weightOfAWayIsOfAllItsStreets() {
        // Forward wants offsets 10 and 20, backward 50 and 40; the weights stand on unlike streets.
        WaveOffsets x = Roads.crossings(3, 20, 60);
        x.cycles(60, 60, 1);
        x.step(10);
        x.street(0, 1, 10, 2);
        x.street(1, 2, 10, 2);
        x.street(2, 1, 10, 3);
        x.street(1, 0, 10, 0);
        x.run(0, Roads.ALL);
        Check.due("forward weighs 4: offset(1)", 10, x.offset(1));
        Check.due("forward weighs 4: offset(2)", 20, x.offset(2));
        x.street(1, 0, 10, 2);
        x.run(0, Roads.ALL);
        Check.due("backward weighs 5: offset(1)", 50, x.offset(1));
        Check.due("backward weighs 5: offset(2)", 40, x.offset(2));
    }

    static void takesTheFormerPlansPlace() {
        WaveOffsets x = Roads.plannedPair();
        Check.due("run(1, 1)", 60, x.run(1, 1L));
        Check.due("offset(1)", 0, x.offset(1));
        Check.due("count(4)", 1, x.count(4));
    }

    static void refusedLeavesThePlan() {
        WaveOffsets x = Roads.plannedPair();
        Check.due("run(2, 1)", -1, x.run(2, 1L));
        Check.due("run(1, 0)", -1, x.run(1, 0L));
        Check.due("run(1, 200001)", -1, x.run(1, 200001L));
        Roads.duePairsPlan("refused run", x);
    }

    static void longestCycleIsSearchedToItsEnd() {
        for (int aim = 0; aim < 2; aim++) {
            WaveOffsets x = Roads.placed(90, 120, 1, 0, 119);
            Check.due("run", 120, x.run(aim, Roads.ALL));
            Check.due("offset(1)", 119, x.offset(1));
            Roads.dueFraction("width(0)", 3, 4, x.width(0, 0), x.width(0, 1));
        }
    }

    static void offsetsAreApartByUpToTheLongestCycleLessOne() {
        int[][] rows = {{0, 119, 0, 119, 0}, {0, 0, 119, 0, 119}, {0, 119, 119, 0, 51}};
        for (int[] offsets : rows) {
            WaveOffsets x = Roads.placed(20, 120, 17, offsets);
            Check.due("run", 120, x.run(1, Roads.ALL));
            for (int k = 0; k < 5; k++) {
                Check.due("aim 1: offset(" + k + ")", offsets[k], x.offset(k));
            }
            Roads.dueFraction("stops", 0, 1, x.stops(0), x.stops(1));
        }
    }

    static void shortestCycleIsSearched() {
        for (int aim = 0; aim < 2; aim++) {
            WaveOffsets x = Roads.placed(5, 10, 1, 0, 9, 3);
            Check.due("run", 10, x.run(aim, Roads.ALL));
            Check.due("offset(1)", 9, x.offset(1));
            Check.due("offset(2)", 3, x.offset(2));
        }
    }

    static void fiveCrossingsAreSearched() {
        for (int aim = 0; aim < 2; aim++) {
            WaveOffsets x = Roads.placed(40, 120, 10, 0, 110, 30, 30, 70);
            Check.due("run", 120, x.run(aim, Roads.ALL));
            Check.due("offset(1)", 110, x.offset(1));
            Check.due("offset(2)", 30, x.offset(2));
            Check.due("offset(3)", 30, x.offset(3));
            Check.due("offset(4)", 70, x.offset(4));
        }
    }

    static void mostCallsWithTheMostRowsEnd() {
        WaveOffsets x = new WaveOffsets();
        for (int k = 0; k < 5; k++) {
            x.crossing(50 + k, 120);
        }
        for (int k = 0; k < 4; k++) {
            x.street(k, k + 1, 13 + 7 * k, 50 + k);
            x.street(k + 1, k, 31 - 5 * k, 60 - k);
        }
        x.step(3);
        for (int call = 14; call < 512; call++) {
            Check.due("call " + call, 120, x.run(call & 1, Roads.ALL));
        }
    }
}
