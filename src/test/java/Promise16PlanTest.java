/** Promise 16: plan. */
public final class Promise16PlanTest {
    public static void main(String[] args) {
        Check.run(Promise16PlanTest.class);
    }

    static void hourBelow0IsBad() {
        WaveOffsets x = Roads.plannedPair();
        Check.due("plan(-1)", -1, x.plan(-1));
        Check.due("plan(LOW)", -1, x.plan(Roads.LOW));
        Check.due("count(3)", 0, x.count(3));
    }

    static void hour0Is() {
        WaveOffsets x = Roads.plannedPair();
        Check.due("plan(0)", 1, x.plan(0));
        Check.due("change(0, 0)", 0, x.change(0, 0));
    }

    static void hour23Is() {
        WaveOffsets x = Roads.plannedPair();
        Check.due("plan(23)", 1, x.plan(23));
        Check.due("change(23, 23)", 0, x.change(23, 23));
    }

    static void hourAbove23IsBad() {
        WaveOffsets x = Roads.plannedPair();
        Check.due("plan(24)", -1, x.plan(24));
        Check.due("plan(HIGH)", -1, x.plan(Roads.HIGH));
        Check.due("count(3)", 0, x.count(3));
    }

    static void nothingAtHandIsBad() {
        WaveOffsets x = Roads.pair();
        Check.due("before run: plan(3)", -1, x.plan(3));
        Check.due("count(3)", 0, x.count(3));
        x.run(0, Roads.ALL);
        x.step(10);
        Check.due("gone: plan(3)", -1, x.plan(3));
        Check.due("count(3)", 0, x.count(3));
        Check.due("new: plan(0)", -1, new WaveOffsets().plan(0));
    }

    static void answersHowManyHoursHaveOne() {
        WaveOffsets x = Roads.plannedPair();
        for (int hour = 0; hour < 24; hour++) {
            // 7 and 24 have no common divisor: each hour comes once.
            Check.due("hour " + hour, hour + 1, x.plan(hour * 7 % 24));
        }
        for (int hour = 0; hour < 24; hour++) {
            Check.due("all have one: plan(" + hour + ")", 24, x.plan(hour));
        }
        Check.due("plan(24)", -1, x.plan(24));
        Check.due("count(3)", 24, x.count(3));
    }

    static void sameHourAgainIsNotOneMore() {
        WaveOffsets x = Roads.plannedPair();
        Check.due("plan(5)", 1, x.plan(5));
        Check.due("plan(5)", 1, x.plan(5));
        Check.due("plan(6)", 2, x.plan(6));
        Check.due("plan(5)", 2, x.plan(5));
    }

    static void sameHourAgainHasTheNewPlan() {
        WaveOffsets x = Roads.plannedPair();
        x.plan(5);
        x.plan(6);
        x.run(0, 2L);
        x.plan(5);
        Check.due("from 10 to 30", 20, x.change(5, 6));
    }

    static void hourKeepsItsPlanWhenAnotherIsAtHand() {
        WaveOffsets x = Roads.plannedPair();
        x.plan(5);
        x.run(0, 1L);
        x.plan(6);
        x.run(0, 2L);
        Check.due("from 30 to 0", 30, x.change(5, 6));
    }

    static void hourKeepsItsPlanWhenNoneIsAtHand() {
        WaveOffsets x = Roads.plannedPair();
        x.plan(5);
        x.run(0, 1L);
        x.plan(6);
        x.cycles(120, 120, 1);
        x.queue(1, 5);
        x.street(0, 1, 1, 1);
        Check.due("count(3)", 2, x.count(3));
        Check.due("from 30 to 0", 30, x.change(5, 6));
    }

    static void refusedLeavesWhatTheHoursHave() {
        WaveOffsets x = Roads.plannedPair();
        x.plan(0);
        x.plan(23);
        x.run(0, 1L);
        Check.due("plan(24)", -1, x.plan(24));
        Check.due("plan(-1)", -1, x.plan(-1));
        x.step(10);
        Check.due("plan(0) with nothing at hand", -1, x.plan(0));
        Check.due("plan(23) with nothing at hand", -1, x.plan(23));
        Check.due("count(3)", 2, x.count(3));
        x.run(0, 1L);
        x.plan(1);
        Check.due("hour 0 has still 30", 30, x.change(0, 1));
        Check.due("hour 23 has still 30", 30, x.change(23, 1));
    }

    static void hoursArePlannedAnewAfterACrossingCame() {
        WaveOffsets x = Roads.plannedPair();
        x.plan(5);
        x.crossing(30, 60);
        x.run(0, 1L);
        Check.due("plan(5)", 1, x.plan(5));
        Check.due("plan(6)", 2, x.plan(6));
        Check.due("change(5, 6)", 0, x.change(5, 6));
    }
}
