/** Promise 9: bound. */
public final class Promise09BoundTest {
    public static void main(String[] args) {
        Check.run(Promise09BoundTest.class);
    }

    private static void due(String what, long upper, long lower, WaveOffsets x) {
        Roads.dueFraction(what, upper, lower, x.bound(0), x.bound(1));
    }

    static void anotherPartIsBad() {
        WaveOffsets x = Roads.plannedPair();
        int[] none = {-1, 2, Roads.LOW, Roads.HIGH};
        for (int part : none) {
            Check.due("bound(" + part + ")", -1, x.bound(part));
        }
        x.cycles(10, 59, 1);
        for (int part : none) {
            Check.due("no cycle can be: bound(" + part + ")", -1, x.bound(part));
        }
    }

    static void fewerThanTwoCrossingsAreBad() {
        WaveOffsets x = new WaveOffsets();
        due("without crossings", -1, -1, x);
        x.crossing(30, 60);
        due("with one", -1, -1, x);
        x.cycles(10, 59, 1);
        due("with one and no cycle", -1, -1, x);
        x.crossing(30, 60);
        due("with two and no cycle", 0, 1, x);
    }

    static void is0Of1IfNoCycleCanBe() {
        WaveOffsets x = Roads.pair();
        x.cycles(10, 59, 1);
        due("no cycle from 60 on", 0, 1, x);
        x.cycles(10, 60, 1);
        due("60 can be", 1, 1, x);
    }

    static void is0Of1WithoutWeights() {
        due("no weights", 0, 1, Roads.crossings(2, 30, 60));
    }

    static void isInLeastTerms() {
        WaveOffsets x = Roads.pair();
        x.street(0, 1, 25, 3);
        x.street(1, 0, 25, 4);
        due("7 * 30 / 60", 7, 2, x);
        x.queue(0, 10);
        due("7 * 20 / 60", 7, 3, x);
        x.queue(0, 15);
        due("7 * 15 / 60", 7, 4, x);
        x.queue(0, 17);
        due("7 * 13 / 60", 91, 60, x);
        x.street(0, 1, 25, 2);
        x.queue(0, 0);
        due("6 * 30 / 60 is whole", 3, 1, x);
    }

    static void weighsBothWays() {
        WaveOffsets x = Roads.crossings(3, 30, 60);
        x.cycles(60, 60, 1);
        x.street(0, 1, 10, 1);
        due("1", 1, 2, x);
        x.street(1, 2, 10, 2);
        due("1 + 2", 3, 2, x);
        x.street(2, 1, 10, 4);
        due("1 + 2 + 4", 7, 2, x);
        x.street(1, 0, 10, 8);
        due("1 + 2 + 4 + 8", 15, 2, x);
    }

    static void takesTheLeastOpenSecondsOfAll() {
        for (int k = 0; k < 3; k++) {
            WaveOffsets x = Roads.crossings(3, 30, 60);
            x.cycles(60, 60, 1);
            x.street(0, 1, 10, 1);
            x.queue(k, 19);
            due("11 open seconds of crossing " + k, 11, 60, x);
        }
        int[][] greens = {{7, 30, 40}, {30, 7, 40}, {30, 40, 7}};
        for (int[] g : greens) {
            WaveOffsets x = new WaveOffsets();
            for (int green : g) {
                x.crossing(green, 60);
            }
            x.street(0, 1, 10, 1);
            due("7 open seconds", 7, 60, x);
        }
    }

    static void takesTheShortestCycleThatCanBe() {
        WaveOffsets x = Roads.pair();
        x.cycles(50, 120, 30);
        due("2 * 30 / 80", 3, 4, x);
        x.cycles(70, 120, 1);
        due("2 * 30 / 70", 6, 7, x);
        x.cycles(10, 120, 1);
        due("2 * 30 / 60", 1, 1, x);
    }

    static void greatestNumbers() {
        WaveOffsets x = Roads.crossings(5, 90, 91);
        x.cycles(91, 120, 1);
        for (int k = 0; k < 4; k++) {
            x.street(k, k + 1, 200, 100);
            x.street(k + 1, k, 200, 100);
        }
        due("800 * 90 / 91", 72000, 91, x);
    }

    static void leastNumbers() {
        WaveOffsets x = Roads.crossings(2, 5, 120);
        x.street(0, 1, 1, 1);
        x.queue(1, 4);
        due("1 * 1 / 120", 1, 120, x);
    }

    static void isToldWithoutAPlan() {
        due("no plan", 1, 1, Roads.pair());
    }

    static void isThatOfAim0WithAPlanOfEitherAim() {
        WaveOffsets x = Roads.pair();
        x.run(1, 1L);
        due("aim 1, one row", 1, 1, x);
        x.run(0, Roads.ALL);
        due("aim 0, all rows", 1, 1, x);
    }

    static void noRowIsBetter() {
        for (int seconds = 1; seconds <= 200; seconds++) {
            WaveOffsets x = Roads.crossings(2, 30, 50);
            x.street(0, 1, seconds, 3);
            x.street(1, 0, 201 - seconds, 2);
            int cycle = x.run(0, Roads.ALL);
            long forward = 3 * x.width(0, 0) * cycle / x.width(0, 1);
            long backward = 2 * x.width(1, 0) * cycle / x.width(1, 1);
            Check.due("not above the bound with " + seconds, true,
                    (forward + backward) * x.bound(1) <= x.bound(0) * cycle);
        }
    }
}
