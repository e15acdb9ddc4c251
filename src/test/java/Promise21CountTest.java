/** Promise 21: count. */
public final class Promise21CountTest {
    public static void main(String[] args) {
        Check.run(Promise21CountTest.class);
    }

    static void anotherNumberIsBad() {
        WaveOffsets x = Roads.plannedPair();
        int[] none = {-1, 5, Roads.LOW, Roads.HIGH};
        for (int what : none) {
            Check.due("count(" + what + ")", -1, x.count(what));
            Check.due("new: count(" + what + ")", -1, new WaveOffsets().count(what));
        }
    }

    static void crossingsFrom0To5() {
        WaveOffsets x = new WaveOffsets();
        for (int k = 0; k < 5; k++) {
            Check.due("count(0)", k, x.count(0));
            x.crossing(30, 60);
        }
        Check.due("count(0)", 5, x.count(0));
        x.crossing(30, 60);
        Check.due("count(0)", 5, x.count(0));
    }

    static void rowsWithoutCrossingsAre0() {
        WaveOffsets x = new WaveOffsets();
        Check.due("count(1)", 0, x.count(1));
        x.cycles(10, 120, 1);
        x.step(1);
        Check.due("count(1)", 0, x.count(1));
    }

    static void rowsOfOneCrossingAreOneForEachCycle() {
        WaveOffsets x = Roads.crossings(1, 20, 30);
        Check.due("30, 40, .. 120", 10, x.count(1));
        x.cycles(30, 60, 10);
        Check.due("30, 40, 50, 60", 4, x.count(1));
        x.step(1);
        Check.due("with any step", 4, x.count(1));
    }

    static void rowsAre0IfNoCycleCanBe() {
        WaveOffsets x = Roads.crossings(1, 30, 60);
        x.cycles(10, 59, 1);
        Check.due("one crossing", 0, x.count(1));
        x.crossing(30, 60);
        Check.due("two crossings", 0, x.count(1));
        x.cycles(10, 60, 1);
        Check.due("60 can be", 12, x.count(1));
    }

    static void rowsOfCyclesThatCanNotBeAreLeftOut() {
        int[][] leasts = {{60, 50}, {50, 60}};
        for (int[] l : leasts) {
            WaveOffsets x = new WaveOffsets();
            x.crossing(30, l[0]);
            x.crossing(30, l[1]);
            x.cycles(50, 70, 10);
            x.step(10);
            Check.due("6 of 60 and 7 of 70", 13, x.count(1));
        }
    }

    static void rowsGrowWithEachCrossing() {
        WaveOffsets x = new WaveOffsets();
        x.cycles(60, 60, 1);
        x.step(10);
        long rows = 1;
        for (int k = 0; k < 5; k++) {
            x.crossing(30, 60);
            Check.due((k + 1) + " crossings", rows, x.count(1));
            rows *= 6;
        }
    }

    static void rowsWithAStepThatDoesNotDivideTheCycle() {
        WaveOffsets x = Roads.crossings(3, 30, 60);
        x.cycles(60, 61, 1);
        x.step(20);
        Check.due("3 * 3 + 4 * 4", 25, x.count(1));
    }

    static void mostRows() {
        WaveOffsets x = Roads.crossings(5, 5, 10);
        x.cycles(10, 120, 1);
        x.step(1);
        long rows = 0;
        for (long c = 10; c <= 120; c++) {
            rows += c * c * c * c;
        }
        Check.due("far beyond an int", rows, x.count(1));
    }

    static void rowsDoNotDependOnARun() {
        WaveOffsets x = Roads.pair();
        x.run(0, 1L);
        Check.due("count(1)", 6, x.count(1));
    }

    static void arrivalsFrom0To40() {
        WaveOffsets x = Roads.pair();
        for (int i = 0; i < 40; i++) {
            Check.due("count(2)", i, x.count(2));
            x.arrive(0, 0, i, 1);
        }
        Check.due("count(2)", 40, x.count(2));
        x.arrive(0, 0, 0, 1);
        Check.due("count(2)", 40, x.count(2));
    }

    static void arrivalsNotCars() {
        WaveOffsets x = Roads.pair();
        x.arrive(0, 0, 0, 1000);
        Check.due("count(2)", 1, x.count(2));
    }

    static void hoursFrom0To24() {
        WaveOffsets x = Roads.plannedPair();
        for (int hour = 0; hour < 24; hour++) {
            Check.due("count(3)", hour, x.count(3));
            x.plan(hour);
        }
        Check.due("count(3)", 24, x.count(3));
        x.plan(0);
        x.plan(24);
        Check.due("count(3)", 24, x.count(3));
    }

    static void hoursStayWhenACrossingComes() {
        WaveOffsets x = Roads.plannedPair();
        x.plan(3);
        x.crossing(30, 60);
        Check.due("count(3)", 1, x.count(3));
    }

    static void aimOfThePlanAtHand() {
        WaveOffsets x = Roads.pair();
        x.run(1, 1L);
        Check.due("count(4)", 1, x.count(4));
        x.run(0, 1L);
        Check.due("count(4)", 0, x.count(4));
        x.run(1, Roads.ALL);
        Check.due("count(4)", 1, x.count(4));
    }

    static void aimWithNothingAtHandIsBad() {
        WaveOffsets x = Roads.pair();
        Check.due("before run: count(4)", -1, x.count(4));
        x.run(1, 1L);
        x.step(10);
        Check.due("gone: count(4)", -1, x.count(4));
    }

    static void aimStaysWithARefusedRun() {
        WaveOffsets x = Roads.pair();
        x.run(1, 1L);
        x.run(0, 0L);
        x.run(2, 1L);
        Check.due("count(4)", 1, x.count(4));
    }

    static void countsWithoutAPlan() {
        WaveOffsets x = Roads.crossings(2, 30, 60);
        Check.due("count(0)", 2, x.count(0));
        Check.due("count(2)", 0, x.count(2));
        Check.due("count(3)", 0, x.count(3));
    }
}
