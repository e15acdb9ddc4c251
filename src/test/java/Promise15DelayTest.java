/** Promise 15: delay. */
public final class Promise15DelayTest {
    public static void main(String[] args) {
        Check.run(Promise15DelayTest.class);
    }

    private static void due(String what, WaveOffsets x, long waited, long through) {
        Check.due(what + ": delay(0)", waited, x.delay(0));
        Check.due(what + ": delay(1)", through, x.delay(1));
    }

    /** One car that comes to crossing 1, which has this offset. */
    private static void dueOfOne(int green, int cycle, int queue, int offset, int second, int waits) {
        WaveOffsets x = Roads.crossings(2, green, cycle);
        x.queue(0, queue);
        x.queue(1, queue);
        Roads.place(x, cycle, 1, 0, offset);
        x.arrive(0, 0, second, 1);
        due("offset " + offset + ", queue " + queue + ", second " + second, x, waits, waits == 0 ? 1 : 0);
    }

    static void anotherPartIsBad() {
        WaveOffsets x = Roads.plannedPair();
        x.arrive(0, 0, 0, 1);
        int[] none = {-1, 2, Roads.LOW, Roads.HIGH};
        for (int part : none) {
            Check.due("delay(" + part + ")", -1, x.delay(part));
        }
    }

    static void nothingAtHandIsBad() {
        WaveOffsets x = Roads.pair();
        due("before run", x, -1, -1);
        x.arrive(0, 0, 0, 1);
        due("before run, with an arrival", x, -1, -1);
        x.run(0, Roads.ALL);
        x.queue(1, 0);
        due("gone", x, -1, -1);
    }

    static void withoutArrivalsIs0() {
        due("nobody came", Roads.plannedPair(), 0, 0);
    }

    static void firstOpenSecondDoesNotWait() {
        dueOfOne(30, 60, 0, 20, 20, 0);
        dueOfOne(30, 60, 7, 20, 27, 0);
    }

    static void secondBeforeTheFirstOpenOneWaits1() {
        dueOfOne(30, 60, 0, 20, 19, 1);
        dueOfOne(30, 60, 7, 20, 26, 1);
    }

    static void lastOpenSecondDoesNotWait() {
        dueOfOne(30, 60, 0, 20, 49, 0);
        dueOfOne(30, 60, 7, 20, 49, 0);
    }

    static void secondAfterTheGreenWaitsForTheNextOne() {
        dueOfOne(30, 60, 0, 20, 50, 30);
        dueOfOne(30, 60, 7, 20, 50, 37);
    }

    static void secondsOfTheQueueWait() {
        dueOfOne(30, 60, 7, 20, 20, 7);
        dueOfOne(30, 60, 7, 20, 25, 2);
        dueOfOne(30, 60, 29, 0, 0, 29);
    }

    static void greenGoesOnFromBefore0() {
        dueOfOne(30, 60, 0, 50, 0, 0);
        dueOfOne(30, 60, 0, 50, 19, 0);
        dueOfOne(30, 60, 0, 50, 20, 30);
        dueOfOne(30, 60, 0, 30, 0, 30);
        dueOfOne(30, 60, 0, 31, 0, 0);
        dueOfOne(30, 60, 0, 31, 1, 30);
    }

    static void queueGoesOnFromBefore0() {
        dueOfOne(30, 60, 15, 50, 0, 5);
        dueOfOne(30, 60, 15, 50, 4, 1);
        dueOfOne(30, 60, 15, 50, 5, 0);
        dueOfOne(30, 60, 10, 50, 0, 0);
        dueOfOne(30, 60, 10, 50, 59, 1);
    }

    static void secondsGoRoundTheCycle() {
        dueOfOne(30, 60, 0, 20, 60, 20);
        dueOfOne(30, 60, 0, 20, 79, 1);
        dueOfOne(30, 60, 0, 20, 80, 0);
        dueOfOne(30, 60, 0, 20, 10000, 0);
        dueOfOne(30, 60, 0, 45, 10000, 5);
        dueOfOne(90, 91, 0, 90, 10000, 0);
    }

    static void longestWait() {
        dueOfOne(5, 120, 4, 0, 5, 119);
        dueOfOne(5, 120, 4, 119, 4, 119);
    }

    static void shortestRed() {
        dueOfOne(90, 91, 0, 0, 90, 1);
        dueOfOne(90, 91, 0, 0, 91, 0);
        dueOfOne(90, 91, 0, 1, 0, 1);
    }

    static void carsCountEach() {
        WaveOffsets x = Roads.plannedPair();
        x.arrive(0, 0, 29, 3);
        due("3 wait 1", x, 3, 0);
        x.arrive(0, 0, 30, 2);
        due("2 do not", x, 3, 2);
        x.arrive(0, 0, 59, 4);
        due("4 do not", x, 3, 6);
        x.arrive(0, 0, 60, 5);
        due("5 wait 30", x, 153, 6);
        x.arrive(1, 1, 29, 1);
        due("1 does not", x, 153, 7);
        x.arrive(1, 1, 30, 6);
        due("6 wait 30", x, 333, 7);
        x.arrive(0, 0, 10000, 7);
        due("7 do not", x, 333, 14);
    }

    static void mostCarsWait() {
        WaveOffsets x = Roads.crossings(2, 5, 120);
        x.queue(0, 4);
        x.queue(1, 4);
        Roads.place(x, 120, 1, 0, 0);
        for (int i = 0; i < 40; i++) {
            x.arrive(0, 0, 5, 1000);
        }
        due("40 * 1000 wait 119", x, 4760000, 0);
    }

    static void mostCarsGoThrough() {
        WaveOffsets x = Roads.placed(30, 60, 1, 0, 0);
        for (int i = 0; i < 40; i++) {
            x.arrive(1, 1, 60 * i, 1000);
        }
        due("40 * 1000", x, 0, 40000);
    }

    static void isOfThePlanAtHand() {
        WaveOffsets x = Roads.plannedPair();
        x.arrive(0, 0, 0, 2);
        due("offset 30", x, 60, 0);
        x.run(0, 1L);
        due("offset 0", x, 0, 2);
        x.run(0, 2L);
        due("offset 10", x, 20, 0);
    }

    static void isOfTheQueueAtHand() {
        WaveOffsets x = Roads.plannedPair();
        x.arrive(0, 0, 20, 1);
        due("offset 30, no queue", x, 10, 0);
        x.queue(1, 10);
        x.run(0, Roads.ALL);
        Check.due("offset(1)", 20, x.offset(1));
        due("offset 20, queue 10", x, 10, 0);
        x.queue(1, 29);
        x.run(0, 1L);
        due("offset 0, queue 29", x, 9, 0);
    }

    static void arrivalsFromBeforeACrossingCameCount() {
        WaveOffsets x = Roads.plannedPair();
        x.arrive(0, 0, 0, 2);
        x.crossing(30, 60);
        x.arrive(1, 0, 10, 3);
        Roads.place(x, 60, 10, 0, 50, 20);
        due("2 find crossing 1 green, 3 wait 10", x, 30, 2);
    }
}
