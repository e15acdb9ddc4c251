/** Promise 1: A new object. */
public final class Promise01NewObjectTest {
    public static void main(String[] args) {
        Check.run(Promise01NewObjectTest.class);
    }

    static void hasNoCrossings() {
        WaveOffsets x = new WaveOffsets();
        Check.due("count(0)", 0, x.count(0));
        Check.due("count(1)", 0, x.count(1));
        Check.due("street(0, 1, 10, 1)", false, x.street(0, 1, 10, 1));
        Check.due("queue(0, 0)", false, x.queue(0, 0));
        Check.due("arrive(0, 0, 0, 1)", false, x.arrive(0, 0, 0, 1));
        Check.due("bound(0)", -1, x.bound(0));
        Check.due("run(0, 1)", -1, x.run(0, 1L));
    }

    static void triesTwelveCycles() {
        WaveOffsets x = Roads.crossings(1, 5, 10);
        Check.due("count(1)", 12, x.count(1));
    }

    static void triesCycle10First() {
        WaveOffsets x = Roads.crossings(2, 5, 10);
        Check.due("run(0, 200000)", 10, x.run(0, Roads.ALL));
    }

    static void triesCycle120Last() {
        WaveOffsets x = Roads.crossings(2, 5, 120);
        Check.due("run(0, 200000)", 120, x.run(0, Roads.ALL));
        Check.due("count(1): 24 offsets of one cycle", 24, x.count(1));
    }

    static void triesCyclesBy10() {
        WaveOffsets x = Roads.crossings(2, 5, 111);
        Check.due("above 110 there is 120 alone", 24, x.count(1));
        x = Roads.crossings(2, 5, 110);
        Check.due("from 110 on there are 110 and 120", 46, x.count(1));
    }

    static void hasStep5() {
        WaveOffsets x = Roads.crossings(2, 5, 10);
        Check.due("2 + 4 + .. + 24 rows", 156, x.count(1));
    }

    static void hasNothingAtHand() {
        Roads.dueNothingAtHand("new", new WaveOffsets());
    }

    static void hasNothingAtHandWithItsFirstCrossings() {
        Roads.dueNothingAtHand("two crossings", Roads.crossings(2, 30, 60));
    }

    static void hasNoArrivalsAndNoHours() {
        WaveOffsets x = new WaveOffsets();
        Check.due("count(2)", 0, x.count(2));
        Check.due("count(3)", 0, x.count(3));
        Check.due("change(0, 0)", -1, x.change(0, 0));
        Check.due("day()", 0, x.day());
    }

    static void knowsNothingOfOtherObjects() {
        WaveOffsets other = Roads.plannedPair();
        other.arrive(0, 0, 0, 1);
        other.plan(3);
        WaveOffsets x = new WaveOffsets();
        Roads.dueNothingAtHand("new beside another", x);
        Check.due("count(0)", 0, x.count(0));
        Check.due("count(2)", 0, x.count(2));
        Check.due("count(3)", 0, x.count(3));
        x.crossing(5, 10);
        x.crossing(5, 10);
        Check.due("count(1)", 156, x.count(1));
        Roads.duePairsPlan("the other", other);
    }
}
