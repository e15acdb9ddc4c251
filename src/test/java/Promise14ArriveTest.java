/** Promise 14: arrive. */
public final class Promise14ArriveTest {
    public static void main(String[] args) {
        Check.run(Promise14ArriveTest.class);
    }

    private static void due(boolean want, int from, int way, int second, int cars) {
        WaveOffsets x = Roads.crossings(3, 30, 60);
        Check.due("arrive(" + from + ", " + way + ", " + second + ", " + cars + ")", want,
                x.arrive(from, way, second, cars));
        Check.due("count(2)", want ? 1 : 0, x.count(2));
    }

    static void fromACrossingBefore0IsNone() {
        due(false, -1, 0, 0, 1);
        due(false, -1, 1, 0, 1);
    }

    static void fromACrossingBehindTheLastIsNone() {
        due(false, 3, 0, 0, 1);
        due(false, 3, 1, 0, 1);
        due(false, 4, 1, 0, 1);
        due(false, 5, 1, 0, 1);
    }

    static void forwardFromTheLastIsNone() {
        due(false, 2, 0, 0, 1);
        WaveOffsets x = Roads.crossings(5, 30, 60);
        Check.due("arrive(4, 0, 0, 1) of five", false, x.arrive(4, 0, 0, 1));
    }

    static void backwardFromTheFirstIsNone() {
        due(false, 0, 1, 0, 1);
    }

    static void forwardFromTheOthersIs() {
        due(true, 0, 0, 0, 1);
        due(true, 1, 0, 0, 1);
    }

    static void backwardFromTheOthersIs() {
        due(true, 1, 1, 0, 1);
        due(true, 2, 1, 0, 1);
    }

    static void fromTheLastOfFiveIs() {
        WaveOffsets x = Roads.crossings(5, 30, 60);
        Check.due("arrive(3, 0, 0, 1)", true, x.arrive(3, 0, 0, 1));
        Check.due("arrive(4, 1, 0, 1)", true, x.arrive(4, 1, 0, 1));
    }

    static void fewerThanTwoCrossingsHaveNoStreet() {
        WaveOffsets x = new WaveOffsets();
        Check.due("arrive(0, 0, 0, 1)", false, x.arrive(0, 0, 0, 1));
        Check.due("arrive(0, 1, 0, 1)", false, x.arrive(0, 1, 0, 1));
        x.crossing(30, 60);
        Check.due("one: arrive(0, 0, 0, 1)", false, x.arrive(0, 0, 0, 1));
        Check.due("one: arrive(0, 1, 0, 1)", false, x.arrive(0, 1, 0, 1));
        Check.due("one: arrive(1, 1, 0, 1)", false, x.arrive(1, 1, 0, 1));
        Check.due("count(2)", 0, x.count(2));
    }

    static void forwardFromTheLastIsAsSoonAsAnotherCame() {
        WaveOffsets x = Roads.crossings(2, 30, 60);
        Check.due("arrive(1, 0, 0, 1)", false, x.arrive(1, 0, 0, 1));
        x.crossing(30, 60);
        Check.due("arrive(1, 0, 0, 1)", true, x.arrive(1, 0, 0, 1));
    }

    static void wayBelow0IsNone() {
        due(false, 1, -1, 0, 1);
    }

    static void wayAbove1IsNone() {
        due(false, 1, 2, 0, 1);
    }

    static void secondBelow0IsNone() {
        due(false, 1, 0, -1, 1);
        due(false, 1, 1, -1, 1);
    }

    static void secondOf0Is() {
        due(true, 1, 0, 0, 1);
        due(true, 1, 1, 0, 1);
    }

    static void secondOf10000Is() {
        due(true, 1, 0, 10000, 1);
        due(true, 1, 1, 10000, 1);
    }

    static void secondAbove10000IsNone() {
        due(false, 1, 0, 10001, 1);
        due(false, 1, 1, 10001, 1);
    }

    static void fewerCarsThan1AreNone() {
        due(false, 1, 0, 0, 0);
        due(false, 1, 0, 0, -1);
    }

    static void oneCarIs() {
        due(true, 1, 0, 0, 1);
    }

    static void thousandCarsAre() {
        due(true, 1, 0, 0, 1000);
    }

    static void moreCarsThan1000AreNone() {
        due(false, 1, 0, 0, 1001);
    }

    static void farNumbersAreNone() {
        int[] far = {Roads.LOW, Roads.HIGH};
        for (int number : far) {
            due(false, number, 0, 0, 1);
            due(false, number, 1, 0, 1);
            due(false, 1, number, 0, 1);
            due(false, 1, 0, number, 1);
            due(false, 1, 0, 0, number);
        }
    }

    static void fortyFirstIsRefused() {
        WaveOffsets x = Roads.plannedPair();
        for (int i = 0; i < 40; i++) {
            Check.due("arrival " + i, true, x.arrive(0, 0, 30, 1));
            Check.due("count(2)", i + 1, x.count(2));
        }
        Check.due("delay(1)", 40, x.delay(1));
        Check.due("one more forward", false, x.arrive(0, 0, 30, 1));
        Check.due("one more backward", false, x.arrive(1, 1, 0, 1));
        Check.due("count(2)", 40, x.count(2));
        Check.due("delay(1)", 40, x.delay(1));
    }

    static void fortyAreForAllCrossingsTogether() {
        WaveOffsets x = Roads.crossings(5, 30, 60);
        for (int i = 0; i < 40; i++) {
            Check.due("arrival " + i, true, i % 2 == 0 ? x.arrive(i % 4, 0, i, 1) : x.arrive(1 + i % 4, 1, i, 1));
        }
        for (int from = 0; from < 4; from++) {
            Check.due("forward from " + from, false, x.arrive(from, 0, 0, 1));
            Check.due("backward from " + (from + 1), false, x.arrive(from + 1, 1, 0, 1));
        }
    }

    static void refusedOnesAreNotTold() {
        WaveOffsets x = Roads.plannedPair();
        for (int i = 0; i < 39; i++) {
            x.arrive(0, 0, 0, 1);
        }
        x.arrive(0, 1, 0, 1);
        x.arrive(1, 0, 0, 1);
        x.arrive(0, 0, 10001, 1);
        x.arrive(0, 0, 0, 0);
        x.arrive(0, 2, 0, 1);
        Check.due("count(2)", 39, x.count(2));
        Check.due("39 cars wait 30 seconds", 39 * 30, x.delay(0));
        Check.due("the 40th", true, x.arrive(0, 0, 0, 1));
        Check.due("40 cars wait 30 seconds", 40 * 30, x.delay(0));
    }

    static void carsComeToTheOtherEnd() {
        WaveOffsets x = Roads.placed(30, 60, 10, 0, 10, 30);
        x.arrive(1, 0, 0, 1);
        Check.due("forward from 1 to 2, green from 30 on", 30, x.delay(0));
        x.arrive(2, 1, 0, 1);
        Check.due("backward from 2 to 1, green from 10 on", 40, x.delay(0));
        x.arrive(1, 1, 0, 1);
        Check.due("backward from 1 to 0, green at 0", 40, x.delay(0));
        x.arrive(0, 0, 5, 1);
        Check.due("forward from 0 to 1, green from 10 on", 45, x.delay(0));
    }

    static void secondIsThatAtTheOtherEnd() {
        WaveOffsets x = Roads.plannedPair();
        x.arrive(0, 0, 30, 1);
        Check.due("nobody waits, whatever the street's seconds are", 0, x.delay(0));
        Check.due("delay(1)", 1, x.delay(1));
    }

    static void needsNoPlanAndNoStreetTold() {
        WaveOffsets x = Roads.crossings(2, 30, 60);
        Check.due("arrive(0, 0, 0, 1)", true, x.arrive(0, 0, 0, 1));
        Check.due("arrive(1, 1, 0, 1)", true, x.arrive(1, 1, 0, 1));
    }

    static void likeOnesCountEach() {
        WaveOffsets x = Roads.plannedPair();
        x.arrive(0, 0, 0, 3);
        x.arrive(0, 0, 0, 3);
        Check.due("count(2)", 2, x.count(2));
        Check.due("delay(0)", 180, x.delay(0));
    }
}
