/** Promise 2: crossing, and with which calls the plan at hand is gone. */
public final class Promise02CrossingTest {
    public static void main(String[] args) {
        Check.run(Promise02CrossingTest.class);
    }

    private static void dueNone(int green, int least) {
        WaveOffsets x = new WaveOffsets();
        Check.due("crossing(" + green + ", " + least + ")", -1, x.crossing(green, least));
        Check.due("count(0)", 0, x.count(0));
    }

    private static void dueOne(int green, int least) {
        WaveOffsets x = new WaveOffsets();
        Check.due("crossing(" + green + ", " + least + ")", 0, x.crossing(green, least));
        Check.due("count(0)", 1, x.count(0));
    }

    static void answersWhichOne() {
        WaveOffsets x = new WaveOffsets();
        for (int k = 0; k < 5; k++) {
            Check.due("crossing " + k, k, x.crossing(20 + k, 40 + k));
            Check.due("count(0)", k + 1, x.count(0));
        }
    }

    static void greenBelow5IsNone() {
        dueNone(4, 60);
        dueNone(4, 10);
        dueNone(0, 60);
        dueNone(-5, 60);
    }

    static void greenOf5Is() {
        dueOne(5, 60);
    }

    static void greenOf90Is() {
        dueOne(90, 120);
    }

    static void greenAbove90IsNone() {
        dueNone(91, 120);
        dueNone(91, 92);
        dueNone(119, 120);
    }

    static void leastBelow10IsNone() {
        dueNone(5, 9);
        dueNone(8, 9);
        dueNone(5, 0);
        dueNone(5, -60);
    }

    static void leastOf10Is() {
        dueOne(5, 10);
        dueOne(9, 10);
    }

    static void leastOf120Is() {
        dueOne(5, 120);
    }

    static void leastAbove120IsNone() {
        dueNone(5, 121);
        dueNone(90, 121);
    }

    static void leastOfItsGreenIsNone() {
        dueNone(10, 10);
        dueNone(20, 20);
        dueNone(90, 90);
    }

    static void leastBelowItsGreenIsNone() {
        dueNone(20, 19);
        dueNone(90, 10);
    }

    static void leastOneAboveItsGreenIs() {
        dueOne(10, 11);
        dueOne(20, 21);
        dueOne(90, 91);
    }

    static void farNumbersAreNone() {
        dueNone(Roads.LOW, Roads.HIGH);
        dueNone(Roads.HIGH, Roads.LOW);
        dueNone(Roads.LOW, Roads.LOW);
        dueNone(Roads.HIGH, Roads.HIGH);
        dueNone(Roads.LOW, 60);
        dueNone(Roads.HIGH, 60);
        dueNone(20, Roads.LOW);
        dueNone(20, Roads.HIGH);
    }

    static void sixthIsRefused() {
        WaveOffsets x = Roads.crossings(5, 30, 60);
        Check.due("crossing(30, 60)", -1, x.crossing(30, 60));
        Check.due("crossing(5, 10)", -1, x.crossing(5, 10));
        Check.due("count(0)", 5, x.count(0));
        Check.due("offset of a sixth", -1, x.offset(5));
    }

    static void refusedOnesTakeNoNumber() {
        WaveOffsets x = new WaveOffsets();
        Check.due("crossing(4, 60)", -1, x.crossing(4, 60));
        Check.due("crossing(30, 60)", 0, x.crossing(30, 60));
        Check.due("crossing(30, 30)", -1, x.crossing(30, 30));
        Check.due("crossing(30, 60) again", 1, x.crossing(30, 60));
    }

    static void refusedOnesLeaveThoseThere() {
        WaveOffsets x = Roads.crossings(5, 30, 60);
        x.cycles(60, 120, 60);
        x.step(60);
        long rows = x.count(1);
        x.crossing(30, 120);
        Check.due("a sixth's least does not count", rows, x.count(1));
        Check.due("run(0, 200000)", 60, x.run(0, Roads.ALL));
        Check.due("green(4, 1)", 30, x.green(4, 1));
    }

    static void newOneHasNoQueue() {
        WaveOffsets x = Roads.pair();
        x.queue(0, 10);
        x.queue(1, 20);
        x.crossing(30, 60);
        x.run(0, 1L);
        Check.due("green(2, 2)", 0, x.green(2, 2));
        Check.due("green(0, 2), as told", 10, x.green(0, 2));
        Check.due("green(1, 2), as told", 20, x.green(1, 2));
    }

    static void newOneHasStreetsOf1SecondAndWeight0() {
        WaveOffsets x = Roads.crossings(2, 30, 60);
        x.cycles(60, 60, 1);
        x.step(60);
        x.street(0, 1, 60, 3);
        x.street(1, 0, 60, 4);
        x.crossing(30, 60);
        Check.due("run(0, 1)", 60, x.run(0, 1L));
        Roads.dueFraction("width(0)", 29, 60, x.width(0, 0), x.width(0, 1));
        Roads.dueFraction("width(1)", 29, 60, x.width(1, 0), x.width(1, 1));
        Roads.dueFraction("stops", 0, 1, x.stops(0), x.stops(1));
        Roads.dueFraction("bound", 7, 2, x.bound(0), x.bound(1));
    }

    static void takesThePlanAway() {
        WaveOffsets x = Roads.plannedPair();
        Check.due("crossing(30, 60)", 2, x.crossing(30, 60));
        Roads.dueNothingAtHand("crossing", x);
    }

    static void streetTakesThePlanAway() {
        WaveOffsets x = Roads.plannedPair();
        Check.due("street(0, 1, 26, 2)", true, x.street(0, 1, 26, 2));
        Roads.dueNothingAtHand("street", x);
    }

    static void streetBackwardTakesThePlanAway() {
        WaveOffsets x = Roads.plannedPair();
        Check.due("street(1, 0, 26, 2)", true, x.street(1, 0, 26, 2));
        Roads.dueNothingAtHand("street", x);
    }

    static void sameStreetTakesThePlanAway() {
        WaveOffsets x = Roads.plannedPair();
        Check.due("street(0, 1, 25, 1)", true, x.street(0, 1, 25, 1));
        Roads.dueNothingAtHand("street", x);
        x = Roads.plannedPair();
        Check.due("street(1, 0, 25, 1)", true, x.street(1, 0, 25, 1));
        Roads.dueNothingAtHand("street back", x);
    }

    static void cyclesTakeThePlanAway() {
        WaveOffsets x = Roads.plannedPair();
        Check.due("cycles(60, 70, 1)", true, x.cycles(60, 70, 1));
        Roads.dueNothingAtHand("cycles", x);
    }

    static void sameCyclesTakeThePlanAway() {
        WaveOffsets x = Roads.plannedPair();
        Check.due("cycles(60, 60, 1)", true, x.cycles(60, 60, 1));
        Roads.dueNothingAtHand("cycles", x);
    }

    static void stepTakesThePlanAway() {
        WaveOffsets x = Roads.plannedPair();
        Check.due("step(5)", true, x.step(5));
        Roads.dueNothingAtHand("step", x);
    }

    static void sameStepTakesThePlanAway() {
        WaveOffsets x = Roads.plannedPair();
        Check.due("step(10)", true, x.step(10));
        Roads.dueNothingAtHand("step", x);
    }

    static void queueTakesThePlanAway() {
        WaveOffsets x = Roads.plannedPair();
        Check.due("queue(1, 5)", true, x.queue(1, 5));
        Roads.dueNothingAtHand("queue", x);
    }

    static void sameQueueTakesThePlanAway() {
        WaveOffsets x = Roads.plannedPair();
        Check.due("queue(1, 0)", true, x.queue(1, 0));
        Roads.dueNothingAtHand("queue", x);
    }

    static void refusedCrossingLeavesThePlan() {
        WaveOffsets x = Roads.plannedPair();
        Check.due("crossing(4, 60)", -1, x.crossing(4, 60));
        Check.due("crossing(30, 30)", -1, x.crossing(30, 30));
        Check.due("crossing(30, 121)", -1, x.crossing(30, 121));
        Roads.duePairsPlan("refused crossing", x);
    }

    static void refusedSixthLeavesThePlan() {
        WaveOffsets x = Roads.placed(30, 60, 10, 0, 10, 20, 40, 50);
        Check.due("crossing(30, 60)", -1, x.crossing(30, 60));
        Check.due("offset(4)", 50, x.offset(4));
        Check.due("proved()", true, x.proved());
    }

    static void refusedStreetLeavesThePlan() {
        WaveOffsets x = Roads.plannedPair();
        Check.due("street(0, 0, 25, 1)", false, x.street(0, 0, 25, 1));
        Check.due("street(1, 2, 25, 1)", false, x.street(1, 2, 25, 1));
        Check.due("street(0, 1, 0, 1)", false, x.street(0, 1, 0, 1));
        Check.due("street(1, 0, 25, 101)", false, x.street(1, 0, 25, 101));
        Roads.duePairsPlan("refused street", x);
    }

    static void refusedCyclesLeaveThePlan() {
        WaveOffsets x = Roads.plannedPair();
        Check.due("cycles(9, 60, 1)", false, x.cycles(9, 60, 1));
        Check.due("cycles(60, 59, 1)", false, x.cycles(60, 59, 1));
        Check.due("cycles(60, 121, 1)", false, x.cycles(60, 121, 1));
        Check.due("cycles(60, 60, 0)", false, x.cycles(60, 60, 0));
        Roads.duePairsPlan("refused cycles", x);
    }

    static void refusedStepLeavesThePlan() {
        WaveOffsets x = Roads.plannedPair();
        Check.due("step(0)", false, x.step(0));
        Check.due("step(61)", false, x.step(61));
        Roads.duePairsPlan("refused step", x);
    }

    static void refusedQueueLeavesThePlan() {
        WaveOffsets x = Roads.plannedPair();
        Check.due("queue(2, 0)", false, x.queue(2, 0));
        Check.due("queue(1, -1)", false, x.queue(1, -1));
        Check.due("queue(1, 30)", false, x.queue(1, 30));
        Roads.duePairsPlan("refused queue", x);
    }

    static void arrivalsLeaveThePlan() {
        WaveOffsets x = Roads.plannedPair();
        Check.due("arrive(0, 0, 0, 1)", true, x.arrive(0, 0, 0, 1));
        Check.due("arrive(0, 1, 0, 1)", false, x.arrive(0, 1, 0, 1));
        Roads.duePairsPlan("arrive", x);
    }

    static void hoursLeaveThePlan() {
        WaveOffsets x = Roads.plannedPair();
        Check.due("plan(3)", 1, x.plan(3));
        Check.due("plan(24)", -1, x.plan(24));
        Roads.duePairsPlan("plan", x);
    }

    static void costsLeaveThePlan() {
        WaveOffsets x = Roads.plannedPair();
        x.plan(3);
        x.plan(4);
        Check.due("change(3, 4)", 0, x.change(3, 4));
        Check.due("change(3, 5)", -1, x.change(3, 5));
        Check.due("day()", 0, x.day());
        Check.due("delay(0)", 0, x.delay(0));
        Check.due("bound(2)", -1, x.bound(2));
        Roads.duePairsPlan("change, day, delay", x);
    }

    static void questionsLeaveThePlan() {
        WaveOffsets x = Roads.plannedPair();
        x.proved();
        x.bound(0);
        x.offset(0);
        x.green(0, 0);
        x.width(0, 0);
        x.stops(0);
        x.delay(0);
        x.command(0, 0);
        x.fits(0);
        for (int what = 0; what < 5; what++) {
            x.count(what);
        }
        Roads.duePairsPlan("questions", x);
    }

    static void questionsWithoutAnAnswerLeaveThePlan() {
        WaveOffsets x = Roads.plannedPair();
        Check.due("bound(2)", -1, x.bound(2));
        Roads.duePairsPlan("bound(2)", x);
        Check.due("offset(2)", -1, x.offset(2));
        Roads.duePairsPlan("offset(2)", x);
        Check.due("green(2, 0)", -1, x.green(2, 0));
        Roads.duePairsPlan("green(2, 0)", x);
        Check.due("green(0, 3)", -1, x.green(0, 3));
        Roads.duePairsPlan("green(0, 3)", x);
        Check.due("width(2, 0)", -1, x.width(2, 0));
        Roads.duePairsPlan("width(2, 0)", x);
        Check.due("stops(2)", -1, x.stops(2));
        Roads.duePairsPlan("stops(2)", x);
        Check.due("delay(2)", -1, x.delay(2));
        Roads.duePairsPlan("delay(2)", x);
        Check.due("change(0, 1)", -1, x.change(0, 1));
        Roads.duePairsPlan("change(0, 1)", x);
        Check.due("command(0, -1)", -1, x.command(0, -1));
        Roads.duePairsPlan("command(0, -1)", x);
        Check.due("fits(2)", false, x.fits(2));
        Roads.duePairsPlan("fits(2)", x);
        Check.due("count(5)", -1, x.count(5));
        Roads.duePairsPlan("count(5)", x);
    }

    static void arrivalsAndHoursStayWhenThePlanGoes() {
        WaveOffsets x = Roads.plannedPair();
        x.arrive(0, 0, 0, 7);
        x.plan(3);
        x.street(0, 1, 25, 1);
        x.cycles(60, 60, 1);
        x.step(10);
        x.queue(1, 0);
        Check.due("count(2)", 1, x.count(2));
        Check.due("count(3)", 1, x.count(3));
        x.run(0, Roads.ALL);
        Check.due("delay(0): 7 cars wait 30 seconds", 210, x.delay(0));
        Check.due("change(3, 3)", 0, x.change(3, 3));
        x.crossing(30, 60);
        Check.due("count(2) after a crossing", 1, x.count(2));
        Check.due("count(3) after a crossing", 1, x.count(3));
    }
}
