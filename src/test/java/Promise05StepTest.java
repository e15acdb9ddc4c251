/** Promise 5: step. */
public final class Promise05StepTest {
    public static void main(String[] args) {
        Check.run(Promise05StepTest.class);
    }

    /** Two crossings and one cycle: a row for each offset. */
    private static void dueOffsets(int cycle, int step, int offsets) {
        WaveOffsets x = Roads.crossings(2, 5, 10);
        x.cycles(cycle, cycle, 1);
        Check.due("step(" + step + ")", true, x.step(step));
        Check.due("offsets of cycle " + cycle + " by " + step, offsets, x.count(1));
    }

    private static void dueNone(int step) {
        WaveOffsets x = Roads.crossings(2, 5, 10);
        x.cycles(50, 50, 1);
        Check.due("step(" + step + ")", false, x.step(step));
        Check.due("offsets by 5", 10, x.count(1));
    }

    static void below1IsNone() {
        dueNone(0);
        dueNone(-1);
        dueNone(-5);
    }

    static void of1Is() {
        dueOffsets(50, 1, 50);
        dueOffsets(120, 1, 120);
        dueOffsets(10, 1, 10);
    }

    static void of60Is() {
        dueOffsets(120, 60, 2);
    }

    static void above60IsNone() {
        dueNone(61);
        dueNone(120);
    }

    static void farNumbersAreNone() {
        dueNone(Roads.LOW);
        dueNone(Roads.HIGH);
    }

    static void offsetsAreBelowTheCycle() {
        dueOffsets(50, 49, 2);
        dueOffsets(50, 50, 1);
        dueOffsets(50, 51, 1);
        dueOffsets(50, 25, 2);
        dueOffsets(50, 24, 3);
        dueOffsets(60, 60, 1);
        dueOffsets(61, 60, 2);
    }

    static void stepAboveTheCycleLeavesOffset0() {
        dueOffsets(10, 60, 1);
        WaveOffsets x = Roads.crossings(2, 5, 10);
        x.cycles(10, 10, 1);
        x.step(60);
        x.street(0, 1, 5, 1);
        x.run(0, Roads.ALL);
        Check.due("offset(1)", 0, x.offset(1));
        Check.due("proved()", true, x.proved());
    }

    static void lastOffsetBelowTheCycleIsTried() {
        Roads.placed(20, 50, 7, 0, 49);
        Roads.placed(20, 50, 49, 0, 49);
        Roads.placed(20, 50, 1, 0, 49);
        Roads.placed(20, 120, 1, 0, 119);
        Roads.placed(20, 120, 60, 0, 60);
        Roads.placed(20, 61, 60, 0, 60);
    }

    static void offsetsAreMultiplesOfTheStep() {
        WaveOffsets x = Roads.crossings(2, 20, 50);
        x.cycles(50, 50, 1);
        x.step(7);
        x.street(0, 1, 25, 1);
        x.run(0, Roads.ALL);
        Check.due("28 is nearer to 25 than 21", 28, x.offset(1));
        x.street(0, 1, 46, 1);
        x.run(0, Roads.ALL);
        Check.due("49 is nearer to 46 than 42", 49, x.offset(1));
    }

    static void offsetOfCrossing0Is0() {
        WaveOffsets x = Roads.crossings(2, 30, 60);
        x.cycles(60, 60, 1);
        x.step(1);
        for (int seconds = 1; seconds < 60; seconds += 7) {
            x.street(0, 1, seconds, 1);
            x.run(0, Roads.ALL);
            Check.due("offset(0)", 0, x.offset(0));
            Check.due("offset(1)", seconds, x.offset(1));
        }
        Check.due("rows: crossing 0 has one offset alone", 60, x.count(1));
    }

    static void toldAnewIsTheNewOneAlone() {
        WaveOffsets x = Roads.crossings(2, 5, 10);
        x.cycles(60, 60, 1);
        x.step(20);
        x.step(15);
        Check.due("offsets by 15", 4, x.count(1));
    }

    static void refusedLeavesWhatWasTold() {
        WaveOffsets x = Roads.crossings(2, 5, 10);
        x.cycles(60, 60, 1);
        x.step(20);
        x.step(0);
        x.step(61);
        x.step(-20);
        Check.due("offsets by 20", 3, x.count(1));
    }
}
