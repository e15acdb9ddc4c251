/** Promise 13: stops. */
public final class Promise13StopsTest {
    public static void main(String[] args) {
        Check.run(Promise13StopsTest.class);
    }

    private static void due(String what, WaveOffsets x, long upper, long lower) {
        Roads.dueFraction(what, upper, lower, x.stops(0), x.stops(1));
    }

    /** Crossings of 30 seconds green that have offset 0 of 60 alone, 60 seconds apart, without weights. */
    private static WaveOffsets still(int many) {
        WaveOffsets x = Roads.crossings(many, 30, 60);
        x.cycles(60, 60, 1);
        x.step(60);
        for (int k = 1; k < many; k++) {
            x.street(k - 1, k, 60, 0);
            x.street(k, k - 1, 60, 0);
        }
        return x;
    }

    static void anotherPartIsBad() {
        WaveOffsets x = Roads.plannedPair();
        int[] none = {-1, 2, Roads.LOW, Roads.HIGH};
        for (int part : none) {
            Check.due("stops(" + part + ")", -1, x.stops(part));
        }
    }

    static void nothingAtHandIsBad() {
        WaveOffsets x = Roads.pair();
        due("before run", x, -1, -1);
        x.run(1, Roads.ALL);
        x.queue(0, 0);
        due("gone", x, -1, -1);
    }

    static void isInLeastTerms() {
        due("5 and 5 of 60", Roads.plannedPair(), 1, 6);
        WaveOffsets x = still(2);
        x.street(0, 1, 7, 1);
        x.run(0, 1L);
        due("7 of 60", x, 7, 60);
    }

    static void withoutStopsIs0Of1() {
        WaveOffsets x = still(2);
        x.street(0, 1, 60, 100);
        x.run(1, 1L);
        due("nobody stops", x, 0, 1);
    }

    static void withoutWeightsIs0Of1() {
        WaveOffsets x = still(2);
        x.street(0, 1, 30, 0);
        x.run(1, 1L);
        due("nobody comes", x, 0, 1);
    }

    static void mayBeAWholeNumber() {
        WaveOffsets x = still(2);
        x.street(0, 1, 30, 4);
        x.run(1, 1L);
        due("4 * 30 of 60", x, 2, 1);
    }

    static void countsBothWaysTogether() {
        WaveOffsets x = still(2);
        x.street(0, 1, 5, 2);
        x.run(1, 1L);
        due("2 * 5 of 60", x, 1, 6);
        x.street(1, 0, 7, 3);
        x.run(1, 1L);
        due("2 * 5 + 3 * 7 of 60", x, 31, 60);
    }

    static void countsEachStreetByItsWeight() {
        WaveOffsets x = still(3);
        x.street(0, 1, 10, 2);
        x.street(1, 2, 10, 3);
        x.street(2, 1, 20, 5);
        x.street(1, 0, 1, 7);
        x.run(1, 1L);
        due("20 + 30 + 100 + 7 of 60", x, 157, 60);
    }

    static void carsThatStoppedBeforeCountAgain() {
        // Nobody comes through to crossing 2, and yet the street to it has its stops.
        WaveOffsets x = still(3);
        x.street(0, 1, 30, 1);
        x.street(1, 2, 11, 1);
        x.run(1, 1L);
        due("30 + 11 of 60", x, 41, 60);
    }

    static void secondsThatAreNotOpenDoNotBeginAStreet() {
        WaveOffsets x = still(2);
        x.street(0, 1, 10, 1);
        x.queue(0, 25);
        x.run(1, 1L);
        due("25 .. 29 lead to 35 .. 39", x, 1, 12);
        x.street(0, 1, 60, 1);
        x.run(1, 1L);
        due("25 .. 29 lead to open ones", x, 0, 1);
    }

    static void secondsOfTheOthersQueueAreStops() {
        WaveOffsets x = still(2);
        x.street(0, 1, 60, 1);
        x.queue(1, 9);
        x.run(1, 1L);
        due("0 .. 8 lead to the queue", x, 3, 20);
    }

    static void queueOfBothWays() {
        WaveOffsets x = still(2);
        x.street(0, 1, 60, 1);
        x.street(1, 0, 60, 10);
        x.queue(1, 9);
        x.run(1, 1L);
        due("9 forward alone", x, 3, 20);
        x.queue(1, 0);
        x.queue(0, 9);
        x.run(1, 1L);
        due("9 backward alone", x, 3, 2);
    }

    static void greensLongerThanHalfTheCycleMeetTwice() {
        WaveOffsets x = Roads.crossings(2, 50, 60);
        x.cycles(60, 60, 1);
        x.step(60);
        x.street(0, 1, 30, 1);
        x.run(1, 1L);
        due("20 .. 29 lead to 50 .. 59", x, 1, 6);
    }

    static void greensOfUnlikeLength() {
        WaveOffsets x = new WaveOffsets();
        x.crossing(40, 60);
        x.crossing(10, 60);
        x.cycles(60, 60, 1);
        x.step(60);
        x.street(0, 1, 60, 1);
        x.run(1, 1L);
        due("30 of 40 find 10 closed", x, 1, 2);
        x.street(0, 1, 60, 0);
        x.street(1, 0, 60, 1);
        x.run(1, 1L);
        due("none of 10 finds 40 closed", x, 0, 1);
    }

    static void goesRoundTheCyclesEnd() {
        // Crossing 1 is green from 50 to 80, and 0 .. 29 lead to 54 .. 83.
        WaveOffsets x = Roads.placed(30, 60, 10, 0, 50);
        x.street(0, 1, 54, 1);
        x.run(1, Roads.ALL);
        Check.due("offset(1)", 50, x.offset(1));
        due("80 .. 83 are not green", x, 1, 15);
        x.street(0, 1, 174, 1);
        x.run(1, Roads.ALL);
        Check.due("174 is 54 modulo 60", 50, x.offset(1));
        due("so the same stop", x, 1, 15);
    }

    static void greatestNumber() {
        WaveOffsets x = Roads.crossings(5, 90, 120);
        x.cycles(120, 120, 1);
        x.step(60);
        for (int k = 0; k < 4; k++) {
            x.street(k, k + 1, 60, 100);
            x.street(k + 1, k, 60, 100);
        }
        x.run(0, 1L);
        due("8 streets * 100 * 30 of 120", x, 200, 1);
    }

    static void isToldForAPlanOfAim0() {
        WaveOffsets x = Roads.pair();
        x.run(0, 1L);
        due("25 and 25 of 60", x, 5, 6);
    }
}
