/** Promise 19: command. */
public final class Promise19CommandTest {
    public static void main(String[] args) {
        Check.run(Promise19CommandTest.class);
    }

    private static void due(WaveOffsets x, int k, int i, int second) {
        Check.due("command(" + k + ", " + i + ")", second, x.command(k, i));
    }

    static void anotherCrossingIsBad() {
        WaveOffsets x = Roads.plannedPair();
        int[] none = {-1, 2, 3, 4, 5, Roads.LOW, Roads.HIGH};
        for (int k : none) {
            due(x, k, 0, -1);
            due(x, k, 1, -1);
        }
    }

    static void iBelow0IsBad() {
        WaveOffsets x = Roads.plannedPair();
        for (int k = 0; k < 2; k++) {
            due(x, k, -1, -1);
            due(x, k, -2, -1);
            due(x, k, Roads.LOW, -1);
        }
    }

    static void iOf0Is() {
        WaveOffsets x = Roads.plannedPair();
        due(x, 0, 0, 0);
        due(x, 1, 0, 30);
    }

    static void iOf10000Is() {
        WaveOffsets x = Roads.plannedPair();
        due(x, 0, 10000, 300000);
        due(x, 1, 10000, 300030);
        due(x, 0, 9999, 299970);
        due(x, 1, 9999, 300000);
    }

    static void iAbove10000IsBad() {
        WaveOffsets x = Roads.plannedPair();
        for (int k = 0; k < 2; k++) {
            due(x, k, 10001, -1);
            due(x, k, 10002, -1);
            due(x, k, Roads.HIGH, -1);
        }
    }

    static void nothingAtHandIsBad() {
        WaveOffsets x = Roads.pair();
        due(x, 0, 0, -1);
        x.run(0, Roads.ALL);
        x.cycles(60, 60, 1);
        due(x, 0, 0, -1);
        due(x, 1, 1, -1);
    }

    static void beginsAndEndsTakeTurns() {
        WaveOffsets x = Roads.placed(20, 70, 10, 0, 40);
        int[] first = {0, 20, 70, 90, 140, 160};
        int[] second = {40, 60, 110, 130, 180, 200};
        for (int i = 0; i < first.length; i++) {
            due(x, 0, i, first[i]);
            due(x, 1, i, second[i]);
        }
    }

    static void greenThatBeganBefore0IsLeftOut() {
        // Crossing 1 is green until 20 from before 0, and again from 50 to 80.
        WaveOffsets x = Roads.placed(30, 60, 10, 0, 50);
        due(x, 1, 0, 50);
        due(x, 1, 1, 80);
        due(x, 1, 2, 110);
    }

    static void greenThatEndsWithTheCycle() {
        WaveOffsets x = Roads.placed(30, 60, 10, 0, 30);
        due(x, 1, 0, 30);
        due(x, 1, 1, 60);
    }

    static void greenThatBeginsAt0IsTheFirst() {
        WaveOffsets x = Roads.placed(30, 60, 10, 0, 0);
        due(x, 1, 0, 0);
        due(x, 1, 1, 30);
        due(x, 1, 2, 60);
    }

    static void endsAreNotTakenModuloTheCycle() {
        WaveOffsets x = Roads.placed(90, 120, 1, 0, 119);
        due(x, 1, 0, 119);
        due(x, 1, 1, 209);
        due(x, 1, 2, 239);
    }

    static void greatestSecond() {
        WaveOffsets x = Roads.placed(90, 120, 1, 0, 119);
        due(x, 1, 9999, 119 + 4999 * 120 + 90);
        due(x, 1, 10000, 119 + 5000 * 120);
    }

    static void queueDoesNotMatter() {
        WaveOffsets x = Roads.crossings(2, 30, 60);
        x.queue(0, 12);
        x.queue(1, 12);
        Roads.place(x, 60, 10, 0, 20);
        due(x, 0, 0, 0);
        due(x, 1, 0, 20);
        due(x, 1, 1, 50);
    }

    static void ofTheLastOfFive() {
        WaveOffsets x = Roads.placed(30, 60, 10, 0, 10, 20, 40, 50);
        due(x, 4, 0, 50);
        due(x, 4, 3, 140);
        due(x, 5, 0, -1);
    }

    static void lengthIsThatOfItsOwnGreen() {
        WaveOffsets x = new WaveOffsets();
        x.crossing(20, 60);
        x.crossing(40, 60);
        x.run(0, 1L);
        due(x, 0, 1, 20);
        due(x, 1, 1, 40);
    }
}
