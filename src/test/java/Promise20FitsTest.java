/** Promise 20: fits. */
public final class Promise20FitsTest {
    public static void main(String[] args) {
        Check.run(Promise20FitsTest.class);
    }

    static void anotherCrossingDoesNot() {
        WaveOffsets x = Roads.plannedPair();
        int[] none = {-1, 2, 3, 4, 5, Roads.LOW, Roads.HIGH};
        for (int k : none) {
            Check.due("fits(" + k + ")", false, x.fits(k));
        }
    }

    static void withNothingAtHandNoneDoes() {
        WaveOffsets x = Roads.pair();
        Check.due("before run: fits(0)", false, x.fits(0));
        Check.due("before run: fits(1)", false, x.fits(1));
        x.run(0, Roads.ALL);
        x.queue(0, 0);
        Check.due("gone: fits(0)", false, x.fits(0));
        Check.due("gone: fits(1)", false, x.fits(1));
        Check.due("new: fits(0)", false, new WaveOffsets().fits(0));
    }

    static void leastOfTheCycleDoes() {
        WaveOffsets x = Roads.plannedPair();
        Check.due("fits(0)", true, x.fits(0));
        Check.due("fits(1)", true, x.fits(1));
        x = Roads.crossings(2, 5, 120);
        x.run(0, 1L);
        Check.due("120: fits(1)", true, x.fits(1));
        x = Roads.crossings(2, 5, 10);
        x.run(0, 1L);
        Check.due("10: fits(1)", true, x.fits(1));
    }

    static void leastBelowTheCycleDoes() {
        WaveOffsets x = new WaveOffsets();
        x.crossing(5, 10);
        x.crossing(5, 120);
        x.crossing(5, 119);
        Check.due("run(0, 1)", 120, x.run(0, 1L));
        Check.due("fits(0)", true, x.fits(0));
        Check.due("fits(1)", true, x.fits(1));
        Check.due("fits(2)", true, x.fits(2));
    }

    static void lastOfFiveDoes() {
        WaveOffsets x = Roads.crossings(5, 30, 60);
        x.run(0, 1L);
        Check.due("fits(4)", true, x.fits(4));
        Check.due("fits(5)", false, x.fits(5));
    }

    static void crossingThatCameSinceDoesNot() {
        WaveOffsets x = Roads.plannedPair();
        x.crossing(30, 120);
        for (int k = 0; k < 3; k++) {
            Check.due("fits(" + k + ")", false, x.fits(k));
        }
    }
}
