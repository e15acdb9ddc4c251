/** Promise 3: street. */
public final class Promise03StreetTest {
    public static void main(String[] args) {
        Check.run(Promise03StreetTest.class);
    }

    /** Of three crossings. */
    private static void due(boolean want, int a, int b, int seconds, int weight) {
        WaveOffsets x = Roads.crossings(3, 30, 60);
        Check.due("street(" + a + ", " + b + ", " + seconds + ", " + weight + ")", want,
                x.street(a, b, seconds, weight));
    }

    static void leadsToBothNeighbours() {
        due(true, 0, 1, 10, 1);
        due(true, 1, 0, 10, 1);
        due(true, 1, 2, 10, 1);
        due(true, 2, 1, 10, 1);
    }

    static void toItselfIsNone() {
        due(false, 0, 0, 10, 1);
        due(false, 1, 1, 10, 1);
        due(false, 2, 2, 10, 1);
    }

    static void toOneFurtherIsNone() {
        due(false, 0, 2, 10, 1);
        due(false, 2, 0, 10, 1);
        WaveOffsets x = Roads.crossings(5, 30, 60);
        Check.due("street(0, 4, 10, 1)", false, x.street(0, 4, 10, 1));
        Check.due("street(4, 0, 10, 1)", false, x.street(4, 0, 10, 1));
    }

    static void beforeTheFirstCrossingIsNone() {
        due(false, 0, -1, 10, 1);
        due(false, -1, 0, 10, 1);
        due(false, -1, -2, 10, 1);
    }

    static void behindTheLastCrossingIsNone() {
        due(false, 2, 3, 10, 1);
        due(false, 3, 2, 10, 1);
        due(false, 3, 4, 10, 1);
        WaveOffsets x = Roads.crossings(5, 30, 60);
        Check.due("street(4, 5, 10, 1)", false, x.street(4, 5, 10, 1));
        Check.due("street(5, 4, 10, 1)", false, x.street(5, 4, 10, 1));
    }

    static void isOneAsSoonAsTheNeighbourCame() {
        WaveOffsets x = Roads.crossings(1, 30, 60);
        Check.due("street(0, 1, 10, 1)", false, x.street(0, 1, 10, 1));
        Check.due("street(1, 0, 10, 1)", false, x.street(1, 0, 10, 1));
        x.crossing(30, 60);
        Check.due("street(0, 1, 10, 1)", true, x.street(0, 1, 10, 1));
        Check.due("street(1, 0, 10, 1)", true, x.street(1, 0, 10, 1));
    }

    static void leadsToTheLastOfFive() {
        WaveOffsets x = Roads.crossings(5, 30, 60);
        Check.due("street(3, 4, 10, 1)", true, x.street(3, 4, 10, 1));
        Check.due("street(4, 3, 10, 1)", true, x.street(4, 3, 10, 1));
    }

    static void withoutCrossingsIsNone() {
        WaveOffsets x = new WaveOffsets();
        Check.due("street(0, 1, 10, 1)", false, x.street(0, 1, 10, 1));
        Check.due("street(1, 0, 10, 1)", false, x.street(1, 0, 10, 1));
        Check.due("street(0, 0, 10, 1)", false, x.street(0, 0, 10, 1));
    }

    static void secondsBelow1AreNone() {
        due(false, 0, 1, 0, 1);
        due(false, 1, 0, 0, 1);
        due(false, 0, 1, -1, 1);
    }

    static void secondsOf1Are() {
        due(true, 0, 1, 1, 1);
        due(true, 1, 0, 1, 1);
    }

    static void secondsOf200Are() {
        due(true, 0, 1, 200, 1);
        due(true, 1, 0, 200, 1);
    }

    static void secondsAbove200AreNone() {
        due(false, 0, 1, 201, 1);
        due(false, 1, 0, 201, 1);
    }

    static void weightBelow0IsNone() {
        due(false, 0, 1, 10, -1);
        due(false, 1, 0, 10, -1);
    }

    static void weightOf0Is() {
        due(true, 0, 1, 10, 0);
        due(true, 1, 0, 10, 0);
    }

    static void weightOf100Is() {
        due(true, 0, 1, 10, 100);
        due(true, 1, 0, 10, 100);
    }

    static void weightAbove100IsNone() {
        due(false, 0, 1, 10, 101);
        due(false, 1, 0, 10, 101);
    }

    static void farNumbersAreNone() {
        due(false, Roads.HIGH, Roads.LOW, 10, 1);
        due(false, Roads.LOW, Roads.HIGH, 10, 1);
        due(false, Roads.HIGH, Roads.HIGH - 1, 10, 1);
        due(false, 0, Roads.HIGH, 10, 1);
        due(false, Roads.LOW, 0, 10, 1);
        due(false, 0, 1, Roads.LOW, 1);
        due(false, 0, 1, Roads.HIGH, 1);
        due(false, 0, 1, 10, Roads.LOW);
        due(false, 0, 1, 10, Roads.HIGH);
    }

    static void is1SecondAndWeight0UntilTold() {
        WaveOffsets x = Roads.crossings(2, 30, 60);
        Roads.dueFraction("bound", 0, 1, x.bound(0), x.bound(1));
        x.run(0, 1L);
        Roads.dueFraction("width(0)", 29, 60, x.width(0, 0), x.width(0, 1));
        Roads.dueFraction("width(1)", 29, 60, x.width(1, 0), x.width(1, 1));
        Roads.dueFraction("stops", 0, 1, x.stops(0), x.stops(1));
    }

    static void hasNumbersOfItsOwnForEachWay() {
        WaveOffsets x = Roads.crossings(2, 30, 60);
        x.cycles(60, 60, 1);
        x.step(60);
        x.street(0, 1, 5, 2);
        x.run(0, 1L);
        Roads.dueFraction("width(0)", 5, 12, x.width(0, 0), x.width(0, 1));
        Roads.dueFraction("backward is still 1 second", 29, 60, x.width(1, 0), x.width(1, 1));
        Roads.dueFraction("stops: 2 * 5", 1, 6, x.stops(0), x.stops(1));
        x.street(1, 0, 10, 3);
        x.run(0, 1L);
        Roads.dueFraction("forward is still 5 seconds", 5, 12, x.width(0, 0), x.width(0, 1));
        Roads.dueFraction("width(1)", 1, 3, x.width(1, 0), x.width(1, 1));
        Roads.dueFraction("stops: 2 * 5 + 3 * 10", 2, 3, x.stops(0), x.stops(1));
    }

    static void hasNumbersOfItsOwnBetweenEachTwo() {
        WaveOffsets x = Roads.crossings(3, 30, 60);
        x.cycles(60, 60, 1);
        x.step(60);
        x.street(1, 2, 7, 1);
        x.run(0, 1L);
        Roads.dueFraction("forward 1 + 7 seconds", 11, 30, x.width(0, 0), x.width(0, 1));
        x.street(2, 1, 13, 1);
        x.run(0, 1L);
        Roads.dueFraction("backward 13 + 1 seconds", 4, 15, x.width(1, 0), x.width(1, 1));
        Roads.dueFraction("forward as before", 11, 30, x.width(0, 0), x.width(0, 1));
    }

    static void toldAnewIsTheNewOneAlone() {
        WaveOffsets x = Roads.pair();
        x.street(0, 1, 15, 4);
        Roads.dueFraction("bound: 5 * 30 / 60", 5, 2, x.bound(0), x.bound(1));
        x.street(0, 1, 20, 0);
        Roads.dueFraction("bound: 1 * 30 / 60", 1, 2, x.bound(0), x.bound(1));
        x.step(60);
        x.run(0, 1L);
        Roads.dueFraction("20 seconds", 1, 6, x.width(0, 0), x.width(0, 1));
    }

    static void refusedLeavesWhatWasTold() {
        WaveOffsets x = Roads.pair();
        int[][] none = {
            {0, 0, 1, 9}, {1, 1, 1, 9}, {1, 2, 1, 9}, {2, 1, 1, 9}, {0, -1, 1, 9}, {-1, 0, 1, 9},
            {0, 1, 0, 9}, {0, 1, 201, 9}, {0, 1, 1, -1}, {0, 1, 1, 101},
            {1, 0, 0, 9}, {1, 0, 201, 9}, {1, 0, 1, -1}, {1, 0, 1, 101},
        };
        for (int[] s : none) {
            Check.due("street(" + s[0] + ", " + s[1] + ", " + s[2] + ", " + s[3] + ")", false,
                    x.street(s[0], s[1], s[2], s[3]));
            Roads.dueFraction("bound: both weights 1", 1, 1, x.bound(0), x.bound(1));
        }
        x.run(0, Roads.ALL);
        Roads.duePairsPlan("refused streets", x);
    }

    static void refusedForWantOfACrossingIsNotKeptForIt() {
        WaveOffsets x = Roads.crossings(2, 30, 60);
        x.street(1, 2, 30, 9);
        x.street(2, 1, 30, 9);
        x.crossing(30, 60);
        Roads.dueFraction("bound without weights", 0, 1, x.bound(0), x.bound(1));
        x.run(0, 1L);
        Roads.dueFraction("1 + 1 seconds", 7, 15, x.width(0, 0), x.width(0, 1));
    }

    static void secondsGoRoundTheCycle() {
        WaveOffsets x = Roads.pair();
        x.street(1, 0, 25, 0);
        x.street(0, 1, 200, 1);
        x.run(0, Roads.ALL);
        Check.due("200 seconds are 20 modulo 60", 20, x.offset(1));
        x.street(0, 1, 60, 1);
        x.run(0, Roads.ALL);
        Check.due("60 seconds are 0 modulo 60", 0, x.offset(1));
        x.street(0, 1, 180, 1);
        x.run(0, Roads.ALL);
        Check.due("180 seconds are 0 modulo 60", 0, x.offset(1));
    }
}
