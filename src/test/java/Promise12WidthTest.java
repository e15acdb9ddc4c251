/** Promise 12: width, with what the terms say of bands. */
public final class Promise12WidthTest {
    public static void main(String[] args) {
        Check.run(Promise12WidthTest.class);
    }

    private static void due(String what, WaveOffsets x, int direction, long upper, long lower) {
        Roads.dueFraction(what, upper, lower, x.width(direction, 0), x.width(direction, 1));
    }

    /** Two crossings that have offset 0 alone, so many seconds apart both ways. */
    private static WaveOffsets still(int green, int cycle, int seconds) {
        WaveOffsets x = Roads.crossings(2, green, cycle);
        x.cycles(cycle, cycle, 1);
        x.step(60);
        x.street(0, 1, seconds, 1);
        x.street(1, 0, seconds, 1);
        x.run(0, 1L);
        return x;
    }

    static void anotherDirectionIsBad() {
        WaveOffsets x = Roads.plannedPair();
        int[] none = {-1, 2, Roads.LOW, Roads.HIGH};
        for (int direction : none) {
            due("width(" + direction + ")", x, direction, -1, -1);
        }
    }

    static void anotherPartIsBad() {
        WaveOffsets x = Roads.plannedPair();
        int[] none = {-1, 2, Roads.LOW, Roads.HIGH};
        for (int part : none) {
            Check.due("width(0, " + part + ")", -1, x.width(0, part));
            Check.due("width(1, " + part + ")", -1, x.width(1, part));
        }
    }

    static void nothingAtHandIsBad() {
        WaveOffsets x = Roads.pair();
        due("before run", x, 0, -1, -1);
        due("before run", x, 1, -1, -1);
        x.run(0, Roads.ALL);
        x.cycles(60, 60, 1);
        due("gone", x, 0, -1, -1);
        due("gone", x, 1, -1, -1);
    }

    static void isInLeastTerms() {
        due("25 of 60", Roads.plannedPair(), 0, 5, 12);
        due("30 of 60", still(30, 60, 60), 0, 1, 2);
        due("29 of 60", still(30, 60, 1), 0, 29, 60);
        due("20 of 60", still(30, 60, 10), 1, 1, 3);
    }

    static void withoutABandIs0Of1() {
        due("none goes through", still(30, 60, 30), 0, 0, 1);
        due("nor back", still(30, 60, 30), 1, 0, 1);
        due("one second goes through", still(30, 60, 29), 0, 1, 60);
        due("one second back", still(30, 60, 31), 1, 1, 60);
    }

    static void widestBand() {
        due("90 of 91", Roads.placed(90, 91, 1, 0, 33), 0, 90, 91);
    }

    static void narrowestBand() {
        WaveOffsets x = Roads.crossings(2, 5, 120);
        x.queue(0, 4);
        x.queue(1, 4);
        Roads.place(x, 120, 1, 0, 77);
        due("1 of 120", x, 0, 1, 120);
    }

    static void mayBeOfTwoPieces() {
        due("0 .. 19 and 30 .. 49 of 60", still(50, 60, 30), 0, 2, 3);
        due("the same back", still(50, 60, 30), 1, 2, 3);
    }

    static void goesOnOverTheCyclesEnd() {
        // Backward the first crossing is open from 50 to 80, and crossing 0 from 60 to 90.
        WaveOffsets x = Roads.placed(30, 60, 10, 0, 50);
        x.street(1, 0, 10, 1);
        x.street(0, 1, 10, 0);
        x.run(0, Roads.ALL);
        Check.due("offset(1)", 50, x.offset(1));
        due("30 of 60 back", x, 1, 1, 2);
        due("10 of 60 forward", x, 0, 1, 6);
    }

    static void lateInTheLongestCycle() {
        WaveOffsets x = Roads.crossings(2, 30, 120);
        x.street(1, 0, 40, 1);
        x.run(0, Roads.ALL);
        Check.due("offset(1)", 80, x.offset(1));
        due("80 .. 109 of 120", x, 1, 1, 4);
    }

    static void firstAndLastSecondOfTheCycleCount() {
        // Back from crossing 1 at 59, 0, 1, .. each second leads to a green of crossing 0 a second later.
        WaveOffsets x = Roads.crossings(2, 5, 60);
        x.cycles(60, 60, 1);
        x.step(1);
        x.street(1, 0, 1, 1);
        x.run(0, Roads.ALL);
        Check.due("offset(1)", 59, x.offset(1));
        due("59, 0, 1, 2, 3", x, 1, 1, 12);
    }

    static void lastSecondsOfTheLongestCycleCount() {
        WaveOffsets x = Roads.crossings(2, 5, 120);
        x.step(1);
        x.street(1, 0, 1, 1);
        x.run(0, Roads.ALL);
        Check.due("offset(1)", 119, x.offset(1));
        due("119, 0, 1, 2, 3", x, 1, 1, 24);
        x.street(1, 0, 5, 1);
        x.run(0, Roads.ALL);
        Check.due("offset(1)", 115, x.offset(1));
        due("115 .. 119", x, 1, 1, 24);
    }

    static void middleSecondsOfTheLongestCycleCount() {
        for (int offset = 56; offset <= 62; offset++) {
            WaveOffsets x = Roads.crossings(2, 5, 120);
            x.step(1);
            x.street(1, 0, 120 - offset, 1);
            x.run(0, Roads.ALL);
            Check.due("offset(1)", offset, x.offset(1));
            due("five from " + offset + " on", x, 1, 1, 24);
        }
    }

    static void secondsMayGoRoundTheCycleManyTimes() {
        // Five crossings of offset 0, 200 seconds apart: 800 seconds are 0 modulo 10 and 50.
        WaveOffsets x = Roads.crossings(5, 5, 10);
        x.step(60);
        for (int k = 0; k < 4; k++) {
            x.street(k, k + 1, 200, 1);
            x.street(k + 1, k, 200, 1);
        }
        x.cycles(10, 10, 1);
        x.run(0, 1L);
        due("5 of 10 forward", x, 0, 1, 2);
        due("5 of 10 back", x, 1, 1, 2);
        x.cycles(11, 11, 1);
        x.run(0, 1L);
        due("200, 400, 600, 800 are 2, 4, 6, 8 modulo 11", x, 0, 0, 1);
        x.cycles(33, 33, 1);
        x.run(0, 1L);
        due("200 is 2 modulo 33, 400 is 4, 600 is 6", x, 0, 0, 1);
        x.cycles(50, 50, 1);
        x.run(0, 1L);
        due("5 of 50", x, 1, 1, 10);
    }

    static void queueNarrowsItFromItsBegin() {
        WaveOffsets x = still(30, 60, 60);
        x.queue(0, 12);
        x.run(0, 1L);
        due("12 .. 29", x, 0, 3, 10);
        x.queue(1, 13);
        x.run(0, 1L);
        due("13 .. 29", x, 0, 17, 60);
        due("13 .. 29 back", x, 1, 17, 60);
    }

    static void everyCrossingMustBeOpen() {
        for (int k = 0; k < 5; k++) {
            WaveOffsets x = Roads.crossings(5, 30, 60);
            x.cycles(60, 60, 1);
            x.step(60);
            for (int s = 0; s < 4; s++) {
                x.street(s, s + 1, 60, 1);
                x.street(s + 1, s, 60, 1);
            }
            x.queue(k, 29);
            x.run(0, 1L);
            due("one open second of crossing " + k, x, 0, 1, 60);
            due("one open second of crossing " + k, x, 1, 1, 60);
        }
    }

    static void secondsAddUpAlongTheWay() {
        WaveOffsets x = Roads.crossings(3, 30, 60);
        x.cycles(60, 60, 1);
        x.step(60);
        x.street(0, 1, 10, 2);
        x.street(1, 2, 10, 3);
        x.street(2, 1, 20, 5);
        x.street(1, 0, 1, 7);
        x.run(0, 1L);
        due("10 + 10 seconds forward", x, 0, 1, 6);
        due("20 + 1 seconds back", x, 1, 3, 20);
    }

    static void isToldForAWayWithoutWeight() {
        WaveOffsets x = still(30, 60, 10);
        x.street(0, 1, 10, 0);
        x.street(1, 0, 25, 0);
        x.run(0, 1L);
        due("forward", x, 0, 1, 3);
        due("back", x, 1, 1, 12);
    }

    static void isToldForAPlanOfAim1() {
        WaveOffsets x = Roads.pair();
        x.run(1, Roads.ALL);
        due("forward", x, 0, 5, 12);
        due("back", x, 1, 5, 12);
    }
}
