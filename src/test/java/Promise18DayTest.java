/** Promise 18: day. */
public final class Promise18DayTest {
    public static void main(String[] args) {
        Check.run(Promise18DayTest.class);
    }

    private static void planAt(WaveOffsets x, int hour, int cycle, int offset) {
        Roads.place(x, cycle, 10, 0, offset);
        x.plan(hour);
    }

    static void withoutHoursIs0() {
        Check.due("new: day()", 0, new WaveOffsets().day());
        Check.due("planned, but for no hour: day()", 0, Roads.plannedPair().day());
    }

    static void withOneHourIs0() {
        for (int hour = 0; hour < 24; hour++) {
            WaveOffsets x = Roads.plannedPair();
            x.plan(hour);
            Check.due("hour " + hour + ": day()", 0, x.day());
            x.plan(hour);
            Check.due("hour " + hour + " again: day()", 0, x.day());
        }
    }

    static void withOneHourFromBeforeACrossingCameIs0() {
        WaveOffsets x = Roads.plannedPair();
        x.plan(3);
        x.crossing(30, 60);
        Check.due("day()", 0, x.day());
    }

    static void withTwoHoursGoesThereAndBack() {
        WaveOffsets x = Roads.crossings(2, 5, 10);
        planAt(x, 3, 60, 10);
        planAt(x, 4, 60, 30);
        Check.due("20 + 20", 40, x.day());
    }

    static void goesRoundFromTheLastHourToTheFirst() {
        WaveOffsets x = Roads.crossings(2, 5, 10);
        planAt(x, 0, 60, 10);
        planAt(x, 23, 60, 30);
        Check.due("0 to 23 and 23 to 0", 40, x.day());
    }

    static void isNotTheSameBothWays() {
        // From 0 to 50 of 120 it is 150, from 50 to 0 of 60 it is 110.
        WaveOffsets x = Roads.crossings(2, 5, 10);
        planAt(x, 7, 60, 0);
        planAt(x, 9, 120, 50);
        Check.due("150 + 110", 260, x.day());
    }

    static void goesFromEachHourToTheNextThatHasOne() {
        WaveOffsets x = Roads.crossings(2, 5, 10);
        planAt(x, 3, 60, 50);
        planAt(x, 4, 60, 0);
        planAt(x, 7, 100, 70);
        // 3 to 4: 10; 4 to 7: 30 back of 100; 7 to 3: 10 to 50 of 60.
        Check.due("10 + 130 + 120", 260, x.day());
        // The other way round it would be 3 to 7: 120; 7 to 4: 110; 4 to 3: 10.
        planAt(x, 4, 100, 70);
        planAt(x, 7, 60, 0);
        Check.due("120 + 110 + 10", 240, x.day());
    }

    static void orderInWhichHoursWerePlannedDoesNotMatter() {
        WaveOffsets x = Roads.crossings(2, 5, 10);
        planAt(x, 7, 100, 70);
        planAt(x, 3, 60, 50);
        planAt(x, 4, 60, 0);
        Check.due("10 + 130 + 120", 260, x.day());
    }

    static void withAllHours() {
        WaveOffsets x = Roads.crossings(2, 5, 10);
        for (int hour = 0; hour < 24; hour++) {
            planAt(x, hour, 60, hour % 2 == 0 ? 0 : 30);
        }
        Check.due("24 * 30", 720, x.day());
    }

    static void withAllHoursRoundTheDay() {
        WaveOffsets x = Roads.crossings(2, 5, 10);
        for (int hour = 0; hour < 24; hour++) {
            planAt(x, hour, 60, hour < 23 ? 0 : 20);
        }
        Check.due("22 to 23 and 23 to 0", 40, x.day());
    }

    static void greatestCost() {
        WaveOffsets x = Roads.crossings(2, 5, 10);
        for (int hour = 0; hour < 24; hour++) {
            planAt(x, hour, hour % 2 == 0 ? 120 : 110, hour % 2 == 0 ? 60 : 0);
        }
        Check.due("12 * (100 + 60 of 120) + 12 * (100 + 50 of 110)", 12 * 160 + 12 * 150, x.day());
    }

    static void afterACrossingCameIsBad() {
        WaveOffsets x = Roads.crossings(2, 5, 10);
        planAt(x, 3, 60, 10);
        planAt(x, 4, 60, 30);
        x.crossing(5, 10);
        Check.due("day()", -1, x.day());
        Check.due("count(3)", 2, x.count(3));
    }

    static void oneOldPlanAmongNewOnesIsBad() {
        int[][] orders = {{3, 4, 5}, {4, 3, 5}, {5, 3, 4}};
        for (int[] hours : orders) {
            WaveOffsets x = Roads.plannedPair();
            x.plan(hours[0]);
            x.crossing(30, 60);
            x.run(0, 1L);
            x.plan(hours[1]);
            x.plan(hours[2]);
            Check.due("old in hour " + hours[0], -1, x.day());
            x.plan(hours[0]);
            Check.due("all new", 0, x.day());
        }
    }

    static void afterARefusedCrossingIsAsBefore() {
        WaveOffsets x = Roads.crossings(2, 5, 10);
        planAt(x, 3, 60, 10);
        planAt(x, 4, 60, 30);
        x.crossing(5, 9);
        Check.due("day()", 40, x.day());
    }

    static void isToldWithNothingAtHand() {
        WaveOffsets x = Roads.crossings(2, 5, 10);
        planAt(x, 3, 60, 10);
        planAt(x, 4, 60, 30);
        x.step(1);
        Check.due("day()", 40, x.day());
    }
}
