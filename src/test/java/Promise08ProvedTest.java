/** Promise 8: proved. */
public final class Promise08ProvedTest {
    public static void main(String[] args) {
        Check.run(Promise08ProvedTest.class);
    }

    private static void dueProved(WaveOffsets x, boolean want, long nodes) {
        for (int aim = 0; aim < 2; aim++) {
            x.run(aim, nodes);
            Check.due("proved() after run(" + aim + ", " + nodes + ")", want, x.proved());
        }
    }

    static void isNotWithoutARun() {
        Check.due("new: proved()", false, new WaveOffsets().proved());
        Check.due("pair: proved()", false, Roads.pair().proved());
    }

    static void oneRowLessThanAllIsNot() {
        dueProved(Roads.pair(), false, 5L);
    }

    static void asManyRowsAsAllIs() {
        dueProved(Roads.pair(), true, 6L);
    }

    static void oneRowMoreThanAllIs() {
        dueProved(Roads.pair(), true, 7L);
        dueProved(Roads.pair(), true, Roads.ALL);
    }

    static void oneRowIsAllIfThereIsOne() {
        WaveOffsets x = Roads.pair();
        x.step(60);
        Check.due("count(1)", 1, x.count(1));
        dueProved(x, true, 1L);
    }

    static void rowsOfAllCyclesCount() {
        WaveOffsets x = Roads.pair();
        x.step(30);
        x.cycles(60, 70, 10);
        Check.due("2 + 3 rows", 5, x.count(1));
        dueProved(x, false, 2L);
        dueProved(x, false, 4L);
        dueProved(x, true, 5L);
    }

    static void cyclesThatCanNotBeDoNotCount() {
        WaveOffsets x = Roads.pair();
        x.cycles(10, 60, 10);
        dueProved(x, false, 5L);
        dueProved(x, true, 6L);
    }

    static void almostTheMostNodesAreAll() {
        WaveOffsets x = Roads.crossings(5, 20, 30);
        x.cycles(30, 102, 6);
        x.step(7);
        x.street(0, 1, 13, 1);
        Check.due("count(1)", 199990, x.count(1));
        dueProved(x, false, 199989L);
        dueProved(x, true, 199990L);
        dueProved(x, true, 200000L);
    }

    static void theMostNodesMayNotBeAll() {
        WaveOffsets x = Roads.crossings(5, 20, 41);
        x.cycles(41, 81, 8);
        x.step(5);
        x.street(0, 1, 13, 1);
        Check.due("count(1)", 200004, x.count(1));
        dueProved(x, false, 200000L);
    }

    static void rowsBeyondAnIntAreNotAll() {
        WaveOffsets x = Roads.crossings(5, 20, 120);
        x.cycles(120, 120, 1);
        x.step(1);
        dueProved(x, false, 200000L);
    }

    static void theBestRowAloneProvesNothing() {
        // The first row is as good as the bound, and yet the others were not looked at.
        WaveOffsets x = Roads.pair();
        x.street(0, 1, 60, 1);
        x.street(1, 0, 60, 1);
        dueProved(x, false, 1L);
        dueProved(x, false, 5L);
        Roads.dueFraction("width(0)", 1, 2, x.width(0, 0), x.width(0, 1));
        Roads.dueFraction("bound", 1, 1, x.bound(0), x.bound(1));
        dueProved(x, true, 6L);
    }

    static void isOfTheLastRun() {
        WaveOffsets x = Roads.pair();
        x.run(0, 6L);
        Check.due("all", true, x.proved());
        x.run(0, 5L);
        Check.due("then not all", false, x.proved());
        x.run(1, 6L);
        Check.due("then all", true, x.proved());
        x.run(0, 1L);
        Check.due("then one", false, x.proved());
    }

    static void isNotWhenThePlanIsGone() {
        WaveOffsets x = Roads.plannedPair();
        Check.due("proved()", true, x.proved());
        x.step(10);
        Check.due("gone", false, x.proved());
    }

    static void isNotAfterARunThatFoundNoCycle() {
        WaveOffsets x = Roads.plannedPair();
        x.cycles(10, 59, 1);
        Check.due("run(0, 200000)", -1, x.run(0, Roads.ALL));
        Check.due("proved()", false, x.proved());
    }

    static void staysWithARefusedRun() {
        WaveOffsets x = Roads.plannedPair();
        x.run(2, 1L);
        x.run(0, 0L);
        Check.due("as before", true, x.proved());
        x.run(0, 1L);
        x.run(2, Roads.ALL);
        x.run(0, 200001L);
        Check.due("as before", false, x.proved());
    }

    static void staysWithHoursAndArrivals() {
        WaveOffsets x = Roads.plannedPair();
        x.plan(3);
        x.arrive(0, 0, 0, 1);
        Check.due("proved()", true, x.proved());
    }
}
