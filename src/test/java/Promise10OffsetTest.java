/** Promise 10: offset. */
public final class Promise10OffsetTest {
    public static void main(String[] args) {
        Check.run(Promise10OffsetTest.class);
    }

    static void ofACrossingBefore0IsBad() {
        WaveOffsets x = Roads.plannedPair();
        Check.due("offset(-1)", -1, x.offset(-1));
        Check.due("offset(LOW)", -1, x.offset(Roads.LOW));
    }

    static void ofACrossingBehindTheLastIsBad() {
        WaveOffsets x = Roads.plannedPair();
        for (int k = 2; k < 8; k++) {
            Check.due("offset(" + k + ") of two", -1, x.offset(k));
        }
        Check.due("offset(HIGH)", -1, x.offset(Roads.HIGH));
        x = Roads.placed(30, 60, 10, 0, 10, 20, 40, 50);
        Check.due("offset(5) of five", -1, x.offset(5));
    }

    static void withNothingAtHandIsBad() {
        WaveOffsets x = Roads.pair();
        Check.due("before run: offset(0)", -1, x.offset(0));
        Check.due("before run: offset(1)", -1, x.offset(1));
        x.run(0, Roads.ALL);
        x.step(10);
        Check.due("gone: offset(0)", -1, x.offset(0));
        Check.due("gone: offset(1)", -1, x.offset(1));
    }

    static void ofCrossing0Is0() {
        Check.due("offset(0)", 0, Roads.plannedPair().offset(0));
    }

    static void ofEachCrossing() {
        Roads.placed(30, 60, 10, 0, 10, 20, 40, 50);
        Roads.placed(30, 60, 10, 0, 50, 50, 0, 10);
        Roads.placed(20, 30, 1, 0, 29, 1);
    }

    static void mayBe0Anywhere() {
        Roads.placed(30, 60, 10, 0, 0);
        Roads.placed(30, 60, 10, 0, 0, 0);
        Roads.placed(30, 60, 10, 0, 20, 0);
    }

    static void isBelowTheCycle() {
        Roads.placed(30, 60, 1, 0, 59);
        Roads.placed(90, 120, 1, 0, 119);
        Roads.placed(5, 10, 1, 0, 9);
    }

    static void isOfThePlanAtHandNotOfAnHours() {
        WaveOffsets x = Roads.plannedPair();
        x.plan(3);
        x.run(0, 1L);
        Check.due("offset(1)", 0, x.offset(1));
    }
}
