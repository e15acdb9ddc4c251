/** Promise 4: cycles. */
public final class Promise04CyclesTest {
    public static void main(String[] args) {
        Check.run(Promise04CyclesTest.class);
    }

    /** One crossing that any cycle can be for: it has a row for each cycle. */
    private static void due(boolean want, int first, int last, int by, int rows) {
        WaveOffsets x = Roads.crossings(1, 5, 10);
        Check.due("cycles(" + first + ", " + last + ", " + by + ")", want, x.cycles(first, last, by));
        Check.due("cycles tried", rows, x.count(1));
    }

    private static void dueNone(int first, int last, int by) {
        due(false, first, last, by, 12);
    }

    static void firstBelow10IsNone() {
        dueNone(9, 120, 10);
        dueNone(9, 9, 1);
        dueNone(0, 120, 10);
        dueNone(-10, 120, 10);
    }

    static void firstOf10Is() {
        due(true, 10, 50, 20, 3);
    }

    static void firstOf120Is() {
        due(true, 120, 120, 10, 1);
    }

    static void firstAboveLastIsNone() {
        dueNone(50, 49, 1);
        dueNone(120, 10, 10);
        dueNone(121, 120, 1);
    }

    static void firstOfLastIs() {
        due(true, 50, 50, 1, 1);
        due(true, 10, 10, 110, 1);
    }

    static void lastOf120Is() {
        due(true, 100, 120, 1, 21);
    }

    static void lastAbove120IsNone() {
        dueNone(10, 121, 10);
        dueNone(121, 121, 1);
    }

    static void byBelow1IsNone() {
        dueNone(10, 120, 0);
        dueNone(50, 50, 0);
        dueNone(10, 120, -1);
        dueNone(10, 120, -10);
    }

    static void byOf1Is() {
        due(true, 10, 120, 1, 111);
    }

    static void byOf110Is() {
        due(true, 10, 120, 110, 2);
        due(true, 11, 120, 110, 1);
    }

    static void byAbove110IsNone() {
        dueNone(10, 120, 111);
        dueNone(50, 50, 111);
    }

    static void farNumbersAreNone() {
        dueNone(Roads.LOW, 120, 10);
        dueNone(Roads.HIGH, 120, 10);
        dueNone(10, Roads.LOW, 10);
        dueNone(10, Roads.HIGH, 10);
        dueNone(10, 120, Roads.LOW);
        dueNone(10, 120, Roads.HIGH);
        dueNone(Roads.LOW, Roads.HIGH, 1);
        dueNone(Roads.HIGH, Roads.HIGH, 1);
    }

    static void lastIsTriedIfItIsMet() {
        due(true, 10, 30, 10, 3);
        WaveOffsets x = Roads.crossings(2, 5, 30);
        x.cycles(10, 30, 10);
        Check.due("run(0, 1)", 30, x.run(0, 1L));
    }

    static void noneBeyondLastIsTried() {
        due(true, 10, 29, 10, 2);
        WaveOffsets x = Roads.crossings(2, 5, 30);
        x.cycles(10, 29, 10);
        Check.due("run(0, 1)", -1, x.run(0, 1L));
        x.cycles(10, 29, 110);
        Check.due("run(0, 1)", -1, x.run(0, 1L));
    }

    static void lastIsNotTriedIfItIsNotMet() {
        due(true, 10, 31, 10, 3);
        WaveOffsets x = Roads.crossings(2, 5, 31);
        x.cycles(10, 31, 10);
        Check.due("run(0, 1)", -1, x.run(0, 1L));
    }

    static void goOnFromFirstNotFrom0() {
        WaveOffsets x = Roads.crossings(2, 5, 30);
        x.cycles(13, 120, 20);
        Check.due("13, 33, ..", 33, x.run(0, 1L));
    }

    static void toldAnewAreTheNewOnesAlone() {
        WaveOffsets x = Roads.crossings(1, 5, 10);
        x.cycles(10, 120, 1);
        x.cycles(50, 60, 5);
        Check.due("50, 55, 60", 3, x.count(1));
        x.cycles(10, 120, 10);
        Check.due("as at first", 12, x.count(1));
    }

    static void refusedLeaveWhatWasTold() {
        WaveOffsets x = Roads.crossings(2, 5, 10);
        x.step(60);
        x.cycles(20, 40, 5);
        int[][] none = {{9, 120, 1}, {30, 29, 1}, {10, 121, 1}, {10, 120, 0}, {10, 120, 111}};
        for (int[] c : none) {
            Check.due("cycles(" + c[0] + ", " + c[1] + ", " + c[2] + ")", false, x.cycles(c[0], c[1], c[2]));
            Check.due("20, 25, .. 40", 5, x.count(1));
            Check.due("run(0, 200000)", 20, x.run(0, Roads.ALL));
        }
    }

    static void areToldBeforeThereAreCrossings() {
        WaveOffsets x = new WaveOffsets();
        Check.due("cycles(50, 60, 5)", true, x.cycles(50, 60, 5));
        Check.due("no rows without crossings", 0, x.count(1));
        x.crossing(5, 10);
        Check.due("50, 55, 60", 3, x.count(1));
    }
}
