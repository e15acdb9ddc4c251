/** Promise 6: queue. */
public final class Promise06QueueTest {
    public static void main(String[] args) {
        Check.run(Promise06QueueTest.class);
    }

    private static void due(boolean want, int green, int crossing, int seconds) {
        WaveOffsets x = Roads.crossings(2, green, green < 10 ? 10 : green + 1);
        Check.due("queue(" + crossing + ", " + seconds + ") with green " + green, want, x.queue(crossing, seconds));
    }

    static void ofACrossingBefore0IsNone() {
        due(false, 30, -1, 0);
    }

    static void ofACrossingBehindTheLastIsNone() {
        due(false, 30, 2, 0);
        due(false, 30, 4, 0);
        due(false, 30, 5, 0);
        WaveOffsets x = Roads.crossings(5, 30, 60);
        Check.due("queue(4, 1) of five", true, x.queue(4, 1));
        Check.due("queue(5, 1) of five", false, x.queue(5, 1));
    }

    static void withoutCrossingsIsNone() {
        Check.due("queue(0, 0)", false, new WaveOffsets().queue(0, 0));
    }

    static void below0IsNone() {
        due(false, 30, 0, -1);
        due(false, 30, 1, -1);
    }

    static void of0Is() {
        due(true, 30, 0, 0);
        due(true, 30, 1, 0);
    }

    static void ofTheGreenLessOneIs() {
        due(true, 30, 0, 29);
        due(true, 30, 1, 29);
        due(true, 5, 1, 4);
        due(true, 90, 1, 89);
    }

    static void ofTheGreenIsNone() {
        due(false, 30, 0, 30);
        due(false, 30, 1, 30);
        due(false, 5, 1, 5);
        due(false, 90, 1, 90);
    }

    static void aboveTheGreenIsNone() {
        due(false, 30, 0, 31);
        due(false, 30, 1, 60);
        due(false, 5, 1, 89);
    }

    static void isMeasuredByItsOwnGreen() {
        WaveOffsets x = new WaveOffsets();
        x.crossing(20, 60);
        x.crossing(40, 60);
        Check.due("queue(0, 20)", false, x.queue(0, 20));
        Check.due("queue(0, 19)", true, x.queue(0, 19));
        Check.due("queue(1, 40)", false, x.queue(1, 40));
        Check.due("queue(1, 39)", true, x.queue(1, 39));
        Check.due("queue(1, 20)", true, x.queue(1, 20));
    }

    static void farNumbersAreNone() {
        due(false, 30, Roads.LOW, 0);
        due(false, 30, Roads.HIGH, 0);
        due(false, 30, 0, Roads.LOW);
        due(false, 30, 0, Roads.HIGH);
    }

    static void isNoneAtFirst() {
        WaveOffsets x = Roads.pair();
        x.street(1, 0, 1, 0);
        Roads.dueFraction("bound: 30 of 60", 1, 2, x.bound(0), x.bound(1));
        x.run(0, Roads.ALL);
        Check.due("green(0, 2)", 0, x.green(0, 2));
        Check.due("green(1, 2)", x.offset(1), x.green(1, 2));
    }

    static void leavesOneOpenSecondAtLeast() {
        WaveOffsets x = Roads.pair();
        Check.due("queue(0, 29)", true, x.queue(0, 29));
        Roads.dueFraction("bound: 2 * 1 / 60", 1, 30, x.bound(0), x.bound(1));
        x.step(60);
        x.street(0, 1, 1, 1);
        x.run(0, 1L);
        Check.due("second 29 leads to 30, which is not green", 0, x.width(0, 0));
        x.queue(0, 28);
        x.run(0, 1L);
        Roads.dueFraction("second 28 leads to 29", 1, 60, x.width(0, 0), x.width(0, 1));
    }

    static void takesTheFirstSecondsOfTheGreen() {
        WaveOffsets x = Roads.crossings(2, 30, 60);
        x.cycles(60, 60, 1);
        x.step(60);
        x.street(0, 1, 20, 1);
        x.queue(1, 20);
        x.run(0, 1L);
        Roads.dueFraction("0 .. 9 lead to 20 .. 29, all open", 1, 6, x.width(0, 0), x.width(0, 1));
        x.queue(1, 21);
        x.run(0, 1L);
        Roads.dueFraction("second 20 is the queue's", 3, 20, x.width(0, 0), x.width(0, 1));
    }

    static void isOfThatCrossingAlone() {
        WaveOffsets x = Roads.crossings(3, 30, 60);
        x.queue(1, 7);
        x.run(0, 1L);
        Check.due("green(0, 2)", 0, x.green(0, 2));
        Check.due("green(1, 2)", 7, x.green(1, 2));
        Check.due("green(2, 2)", 0, x.green(2, 2));
    }

    static void toldAnewIsTheNewOneAlone() {
        WaveOffsets x = Roads.crossings(2, 30, 60);
        x.queue(1, 20);
        x.queue(1, 5);
        x.run(0, 1L);
        Check.due("green(1, 2)", 5, x.green(1, 2));
        x.queue(1, 0);
        x.run(0, 1L);
        Check.due("green(1, 2)", 0, x.green(1, 2));
    }

    static void refusedLeavesWhatWasTold() {
        WaveOffsets x = Roads.crossings(2, 30, 60);
        x.queue(0, 11);
        x.queue(1, 20);
        x.queue(1, -1);
        x.queue(1, 30);
        x.queue(2, 3);
        x.queue(-1, 3);
        x.run(0, 1L);
        Check.due("green(0, 2)", 11, x.green(0, 2));
        Check.due("green(1, 2)", 20, x.green(1, 2));
    }

    static void refusedForWantOfACrossingIsNotKeptForIt() {
        WaveOffsets x = Roads.crossings(2, 30, 60);
        x.queue(2, 9);
        x.crossing(30, 60);
        x.run(0, 1L);
        Check.due("green(2, 2)", 0, x.green(2, 2));
    }

    static void ofBothCrossingsCounts() {
        WaveOffsets x = Roads.pair();
        x.queue(1, 10);
        x.run(0, Roads.ALL);
        Check.due("offset 20: forward 20, backward 15; 30 the other way round", 20, x.offset(1));
        Roads.dueFraction("width(0)", 1, 3, x.width(0, 0), x.width(0, 1));
        Roads.dueFraction("width(1)", 1, 4, x.width(1, 0), x.width(1, 1));
        Roads.dueFraction("stops", 1, 4, x.stops(0), x.stops(1));
        x.queue(1, 0);
        x.queue(0, 10);
        x.run(0, Roads.ALL);
        Check.due("offset 30: forward all 20 open seconds, backward 15 of 30", 30, x.offset(1));
        Roads.dueFraction("stops", 1, 4, x.stops(0), x.stops(1));
    }
}
