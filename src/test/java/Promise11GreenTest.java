/** Promise 11: green. */
public final class Promise11GreenTest {
    public static void main(String[] args) {
        Check.run(Promise11GreenTest.class);
    }

    private static void due(WaveOffsets x, int crossing, int begins, int ends, int opens) {
        Check.due("green(" + crossing + ", 0)", begins, x.green(crossing, 0));
        Check.due("green(" + crossing + ", 1)", ends, x.green(crossing, 1));
        Check.due("green(" + crossing + ", 2)", opens, x.green(crossing, 2));
    }

    private static WaveOffsets placedWithQueue(int green, int cycle, int queue, int offset) {
        WaveOffsets x = Roads.crossings(2, green, cycle);
        x.queue(0, queue);
        x.queue(1, queue);
        Roads.place(x, cycle, 1, 0, offset);
        return x;
    }

    static void anotherPhaseIsBad() {
        WaveOffsets x = Roads.plannedPair();
        int[] none = {-1, 3, Roads.LOW, Roads.HIGH};
        for (int phase : none) {
            Check.due("green(0, " + phase + ")", -1, x.green(0, phase));
            Check.due("green(1, " + phase + ")", -1, x.green(1, phase));
        }
    }

    static void anotherCrossingIsBad() {
        WaveOffsets x = Roads.plannedPair();
        int[] none = {-1, 2, 3, 4, 5, Roads.LOW, Roads.HIGH};
        for (int k : none) {
            due(x, k, -1, -1, -1);
        }
    }

    static void nothingAtHandIsBad() {
        WaveOffsets x = Roads.pair();
        due(x, 0, -1, -1, -1);
        x.run(0, Roads.ALL);
        x.queue(0, 0);
        due(x, 0, -1, -1, -1);
        due(x, 1, -1, -1, -1);
    }

    static void ofCrossing0BeginsAt0() {
        due(placedWithQueue(30, 60, 7, 20), 0, 0, 30, 7);
    }

    static void endsOneSecondBeforeTheCycleDoes() {
        due(placedWithQueue(30, 60, 0, 29), 1, 29, 59, 29);
    }

    static void endsWithTheCycleAt0() {
        due(placedWithQueue(30, 60, 0, 30), 1, 30, 0, 30);
    }

    static void endsInTheNextCycle() {
        due(placedWithQueue(30, 60, 0, 31), 1, 31, 1, 31);
        due(placedWithQueue(30, 60, 0, 59), 1, 59, 29, 59);
        due(placedWithQueue(20, 50, 3, 40), 1, 40, 10, 43);
    }

    static void opensWithItsGreenWithoutAQueue() {
        due(placedWithQueue(30, 60, 0, 10), 1, 10, 40, 10);
    }

    static void opensOneSecondBeforeTheCycleEnds() {
        due(placedWithQueue(30, 60, 9, 50), 1, 50, 20, 59);
    }

    static void opensWithTheNextCycleAt0() {
        due(placedWithQueue(30, 60, 10, 50), 1, 50, 20, 0);
    }

    static void opensInTheNextCycle() {
        due(placedWithQueue(30, 60, 11, 50), 1, 50, 20, 1);
        due(placedWithQueue(30, 60, 29, 59), 1, 59, 29, 28);
    }

    static void beginsAtTheLastSecondOfTheLongestCycle() {
        due(placedWithQueue(90, 120, 89, 119), 1, 119, 89, 88);
    }

    static void ofTheShortestCycle() {
        due(placedWithQueue(9, 10, 8, 9), 1, 9, 8, 7);
    }

    static void ofTheLastOfFive() {
        WaveOffsets x = Roads.placed(30, 60, 10, 0, 10, 20, 40, 50);
        due(x, 4, 50, 20, 50);
        due(x, 3, 40, 10, 40);
        due(x, 2, 20, 50, 20);
    }
}
