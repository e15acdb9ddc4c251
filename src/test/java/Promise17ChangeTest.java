/** Promise 17: change. */
public final class Promise17ChangeTest {
    public static void main(String[] args) {
        Check.run(Promise17ChangeTest.class);
    }

    /** Two crossings; hours 1 and 2 have these offsets of crossing 1 in these cycles. */
    private static WaveOffsets twoHours(int offsetA, int cycleA, int offsetB, int cycleB) {
        WaveOffsets x = Roads.crossings(2, 5, 10);
        Roads.place(x, cycleA, 1, 0, offsetA);
        x.plan(1);
        Roads.place(x, cycleB, 1, 0, offsetB);
        x.plan(2);
        return x;
    }

    private static void due(int there, int back, WaveOffsets x) {
        Check.due("change(1, 2)", there, x.change(1, 2));
        Check.due("change(2, 1)", back, x.change(2, 1));
    }

    static void hourWithoutAPlanIsBad() {
        WaveOffsets x = twoHours(10, 60, 20, 60);
        Check.due("change(1, 3)", -1, x.change(1, 3));
        Check.due("change(3, 1)", -1, x.change(3, 1));
        Check.due("change(3, 3)", -1, x.change(3, 3));
        Check.due("change(0, 1)", -1, x.change(0, 1));
        Check.due("change(1, 23)", -1, x.change(1, 23));
        Check.due("new: change(0, 0)", -1, new WaveOffsets().change(0, 0));
    }

    static void hourThatIsNoneIsBad() {
        WaveOffsets x = twoHours(10, 60, 20, 60);
        int[] none = {-1, 24, Roads.LOW, Roads.HIGH};
        for (int hour : none) {
            Check.due("change(1, " + hour + ")", -1, x.change(1, hour));
            Check.due("change(" + hour + ", 1)", -1, x.change(hour, 1));
            Check.due("change(" + hour + ", " + hour + ")", -1, x.change(hour, hour));
        }
    }

    static void firstAndLastHourCanChange() {
        WaveOffsets x = Roads.plannedPair();
        x.plan(0);
        x.run(0, 1L);
        x.plan(23);
        Check.due("change(0, 23)", 30, x.change(0, 23));
        Check.due("change(23, 0)", 30, x.change(23, 0));
    }

    static void samePlanCostsNothing() {
        due(0, 0, twoHours(10, 60, 10, 60));
        WaveOffsets x = twoHours(10, 60, 20, 60);
        Check.due("change(1, 1)", 0, x.change(1, 1));
        Check.due("change(2, 2)", 0, x.change(2, 2));
    }

    static void goesTheLesserWayRound() {
        due(10, 10, twoHours(10, 60, 20, 60));
        due(20, 20, twoHours(50, 60, 10, 60));
        due(1, 1, twoHours(59, 60, 0, 60));
        due(29, 29, twoHours(0, 60, 29, 60));
        due(29, 29, twoHours(0, 60, 31, 60));
    }

    static void halfTheCycleIsTheMost() {
        due(30, 30, twoHours(0, 60, 30, 60));
        due(30, 30, twoHours(45, 60, 15, 60));
        due(30, 30, twoHours(0, 61, 30, 61));
        due(30, 30, twoHours(0, 61, 31, 61));
        due(60, 60, twoHours(0, 120, 60, 120));
    }

    static void unlikeCyclesCost100More() {
        due(100, 100, twoHours(0, 60, 0, 70));
        due(100, 100, twoHours(0, 60, 0, 61));
        due(100, 100, twoHours(0, 10, 0, 120));
        due(105, 105, twoHours(5, 60, 10, 70));
    }

    static void isModuloTheSecondOnesCycle() {
        // From 0 to 50: 10 back in 60, but 50 on in 120.
        due(150, 110, twoHours(0, 60, 50, 120));
        due(110, 150, twoHours(50, 120, 0, 60));
    }

    static void offsetsAreTakenModuloTheSecondOnesCycle() {
        // 70 of 100 is 10 of 60; from 50 to 70 of 100 it is 20.
        due(120, 120, twoHours(70, 100, 50, 60));
        due(130, 110, twoHours(0, 60, 70, 100));
        // 60 is 0 of 60.
        due(100, 160, twoHours(60, 120, 0, 60));
        // 119 is 9 of 10, one before 0; from 0 to 119 of 120 it is one back.
        due(101, 101, twoHours(119, 120, 0, 10));
        // 115 is 5 of 10; from 9 to 115 of 120 it is 14 back.
        due(104, 114, twoHours(115, 120, 9, 10));
    }

    static void eachCrossingCounts() {
        WaveOffsets x = Roads.crossings(5, 20, 60);
        Roads.place(x, 60, 10, 0, 10, 20, 40, 50);
        x.plan(1);
        Roads.place(x, 60, 10, 0, 20, 0, 10, 0);
        x.plan(2);
        due(10 + 20 + 30 + 10, 10 + 20 + 30 + 10, x);
        Roads.place(x, 120, 10, 0, 110, 20, 40, 50);
        x.plan(2);
        due(100 + 20, 100 + 20, x);
    }

    static void greatestCost() {
        WaveOffsets x = Roads.crossings(5, 20, 60);
        x.cycles(60, 60, 1);
        x.step(60);
        x.run(0, 1L);
        x.plan(1);
        Roads.place(x, 120, 20, 0, 60, 60, 60, 60);
        x.plan(2);
        due(4 * 60 + 100, 100, x);
    }

    static void afterACrossingCameIsBad() {
        WaveOffsets x = twoHours(10, 60, 20, 60);
        Check.due("crossing(5, 10)", 2, x.crossing(5, 10));
        due(-1, -1, x);
        Check.due("change(1, 1)", -1, x.change(1, 1));
    }

    static void afterARefusedCrossingIsAsBefore() {
        WaveOffsets x = twoHours(10, 60, 20, 60);
        Check.due("crossing(4, 10)", -1, x.crossing(4, 10));
        due(10, 10, x);
    }

    static void betweenAnOldAndANewPlanIsBad() {
        WaveOffsets x = twoHours(10, 60, 20, 60);
        x.crossing(5, 10);
        x.run(0, 1L);
        x.plan(2);
        due(-1, -1, x);
        Check.due("change(1, 1)", -1, x.change(1, 1));
        Check.due("change(2, 2)", 0, x.change(2, 2));
        x.plan(1);
        due(0, 0, x);
    }

    static void otherCallsSinceDoNotMatter() {
        WaveOffsets x = twoHours(10, 60, 20, 60);
        x.street(0, 1, 77, 7);
        x.cycles(10, 120, 110);
        x.step(60);
        x.queue(1, 4);
        x.arrive(0, 0, 0, 1);
        due(10, 10, x);
        x.run(1, Roads.ALL);
        due(10, 10, x);
    }

    static void aimsDoNotMatter() {
        WaveOffsets x = Roads.pair();
        x.run(0, Roads.ALL);
        x.plan(1);
        x.run(1, Roads.ALL);
        x.plan(2);
        due(0, 0, x);
    }
}
