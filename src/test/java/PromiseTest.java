/** For each promise of the document, answers worked out by hand. */
public final class PromiseTest {
    private static final int LOW = Integer.MIN_VALUE;
    private static final int HIGH = Integer.MAX_VALUE;
    private static final long ALL = 200000L;
    private static int wrong = 0;

    public static void main(String[] args) {
        newObject();
        crossing();
        planIsGone();
        street();
        cycles();
        step();
        queue();
        runRefuses();
        runGoesInOrder();
        runComparesCycles();
        runBreaksTies();
        proved();
        bound();
        offset();
        green();
        width();
        stops();
        threeCrossings();
        threeCrossingsApart();
        longCycle();
        arrive();
        delay();
        plan();
        change();
        changeAfterCrossings();
        day();
        command();
        fits();
        count();
        longestSearch();
        System.out.println(wrong == 0 ? "promises: all answers are as due" : "promises: " + wrong + " wrong answers");
        if (wrong != 0) {
            System.exit(1);
        }
    }

    private static void due(String what, long want, long got) {
        if (got != want) {
            wrong++;
            System.out.println(what + " answered " + got + ", due is " + want);
        }
    }

    private static void due(String what, boolean want, boolean got) {
        due(what, want ? 1L : 0L, got ? 1L : 0L);
    }

    /**
     * Two crossings with half the cycle green and 25 seconds each way. Offset o of crossing 1 gives
     * the forward band 30 - |o - 25| and the backward band 30 - |o - 35|: o = 30 is best.
     */
    private static WaveOffsets pair() {
        WaveOffsets x = new WaveOffsets();
        x.crossing(30, 60);
        x.crossing(30, 60);
        x.cycles(60, 60, 1);
        x.step(10);
        x.street(0, 1, 25, 1);
        x.street(1, 0, 25, 1);
        return x;
    }

    /** Two crossings, 20 of 50 seconds green and 40 seconds from the first to the second: offset 40. */
    private static WaveOffsets unevenPair() {
        WaveOffsets x = new WaveOffsets();
        x.crossing(20, 50);
        x.crossing(20, 50);
        x.cycles(50, 50, 1);
        x.step(10);
        x.street(0, 1, 40, 1);
        return x;
    }

    private static WaveOffsets planned() {
        WaveOffsets x = pair();
        due("pair: run", 60, x.run(0, ALL));
        return x;
    }

    private static void newObject() {
        WaveOffsets x = new WaveOffsets();
        due("new: crossings", 0, x.count(0));
        due("new: rows", 0, x.count(1));
        due("new: arrivals", 0, x.count(2));
        due("new: hours", 0, x.count(3));
        due("new: aim", -1, x.count(4));
        due("new: proved", false, x.proved());
        due("new: offset", -1, x.offset(0));
        due("new: bound", -1, x.bound(0));
        due("new: day", 0, x.day());
        x.crossing(5, 10);
        due("new: cycles 10 .. 120 by 10", 12, x.count(1));
        x.crossing(5, 10);
        due("new: step 5", 156, x.count(1));
    }

    private static void crossing() {
        WaveOffsets x = new WaveOffsets();
        int[][] none = {
            {4, 10}, {91, 120}, {5, 9}, {5, 121}, {10, 10}, {50, 49}, {90, 90}, {0, 0}, {-5, 60}, {20, -60},
            {LOW, HIGH}, {HIGH, LOW}, {HIGH, HIGH}, {LOW, LOW}, {20, HIGH}, {LOW, 60},
        };
        for (int[] c : none) {
            due("crossing(" + c[0] + ", " + c[1] + ")", -1, x.crossing(c[0], c[1]));
        }
        due("no crossings after wrong ones", 0, x.count(0));
        due("crossing(5, 10)", 0, x.crossing(5, 10));
        due("crossing(90, 91)", 1, x.crossing(90, 91));
        due("crossing(90, 120)", 2, x.crossing(90, 120));
        due("crossing(5, 120)", 3, x.crossing(5, 120));
        due("crossing(10, 11)", 4, x.crossing(10, 11));
        due("a sixth crossing", -1, x.crossing(10, 11));
        due("crossings", 5, x.count(0));
    }

    private static void planIsGone() {
        WaveOffsets x = planned();
        due("refused crossing", -1, x.crossing(4, 10));
        due("refused street", false, x.street(0, 0, 1, 1));
        due("refused cycles", false, x.cycles(9, 60, 1));
        due("refused step", false, x.step(0));
        due("refused queue", false, x.queue(0, 30));
        due("refused run", -1, x.run(2, ALL));
        due("arrive", true, x.arrive(0, 0, 0, 1));
        due("plan", 1, x.plan(3));
        due("change", 0, x.change(3, 3));
        due("day", 0, x.day());
        due("the plan still stands", 30, x.offset(1));
        due("and is proved", true, x.proved());

        due("the same street", true, x.street(0, 1, 25, 1));
        gone("street", x);
        due("the same cycles", true, x.cycles(60, 60, 1));
        gone("cycles", x);
        due("the same step", true, x.step(10));
        gone("step", x);
        due("the same queue", true, x.queue(1, 0));
        gone("queue", x);
        due("another crossing", 2, x.crossing(30, 60));
        gone("crossing", x);
        due("arrivals stay", 1, x.count(2));
        due("hours stay", 1, x.count(3));
    }

    /** Looks that nothing is at hand, and makes a plan again. */
    private static void gone(String after, WaveOffsets x) {
        due(after + ": proved", false, x.proved());
        due(after + ": offset", -1, x.offset(0));
        due(after + ": green", -1, x.green(0, 0));
        due(after + ": width", -1, x.width(0, 0));
        due(after + ": stops", -1, x.stops(0));
        due(after + ": delay", -1, x.delay(0));
        due(after + ": plan", -1, x.plan(3));
        due(after + ": command", -1, x.command(0, 0));
        due(after + ": fits", false, x.fits(0));
        due(after + ": aim", -1, x.count(4));
        due(after + ": run", 60, x.run(0, ALL));
    }

    private static void street() {
        WaveOffsets x = pair();
        int[][] none = {
            {0, 0, 25, 1}, {0, 2, 25, 1}, {1, 2, 25, 1}, {2, 1, 25, 1}, {-1, 0, 25, 1}, {0, -1, 25, 1},
            {0, 1, 0, 1}, {0, 1, 201, 1}, {0, 1, 25, -1}, {0, 1, 25, 101}, {1, 0, 0, 1}, {1, 0, 25, 101},
            {LOW, HIGH, 25, 1}, {HIGH, LOW, 25, 1}, {0, 1, LOW, 1}, {0, 1, HIGH, 1}, {0, 1, 1, LOW}, {0, 1, 1, HIGH},
        };
        for (int[] s : none) {
            due("street(" + s[0] + ", " + s[1] + ", " + s[2] + ", " + s[3] + ")", false, x.street(s[0], s[1], s[2], s[3]));
        }
        x.run(0, ALL);
        due("wrong streets change nothing", 30, x.offset(1));
        due("street of 200 seconds, weight 100", true, x.street(0, 1, 200, 100));
        due("street of 1 second, weight 0", true, x.street(1, 0, 1, 0));
        x.run(0, ALL);
        due("200 seconds are 20 modulo 60", 20, x.offset(1));
        due("bound with weight 100", 50, x.bound(0));

        x = pair();
        x.street(1, 0, 25, 0);
        x.run(0, ALL);
        due("forward alone", 20, x.offset(1));
        x.street(1, 0, 25, 1);
        x.street(0, 1, 25, 0);
        x.run(0, ALL);
        due("backward alone", 30, x.offset(1));
        x.street(1, 0, 45, 1);
        x.run(0, ALL);
        due("backward alone, further", 10, x.offset(1));

        x = new WaveOffsets();
        x.crossing(30, 60);
        x.crossing(30, 60);
        x.run(0, 1L);
        due("1 second at first, forward", 29, x.width(0, 0));
        due("1 second at first, backward", 29, x.width(1, 0));
        due("weight 0 at first", 0, x.stops(0));
    }

    private static void cycles() {
        WaveOffsets x = new WaveOffsets();
        x.crossing(5, 10);
        x.crossing(5, 10);
        x.step(60);
        int[][] none = {
            {9, 120, 10}, {10, 121, 10}, {50, 49, 1}, {10, 120, 0}, {10, 120, 111}, {10, 120, -1},
            {LOW, 120, 10}, {10, HIGH, 10}, {10, 120, LOW}, {10, 120, HIGH}, {HIGH, LOW, 1}, {10, LOW, 1},
        };
        for (int[] c : none) {
            due("cycles(" + c[0] + ", " + c[1] + ", " + c[2] + ")", false, x.cycles(c[0], c[1], c[2]));
        }
        due("wrong cycles change nothing", 18, x.count(1));
        due("cycles(10, 120, 110)", true, x.cycles(10, 120, 110));
        due("10 and 120", 3, x.count(1));
        due("cycles(10, 119, 110)", true, x.cycles(10, 119, 110));
        due("10 alone", 1, x.count(1));
        due("cycles(120, 120, 1)", true, x.cycles(120, 120, 1));
        due("120 alone", 2, x.count(1));
        due("cycles(10, 29, 10)", true, x.cycles(10, 29, 10));
        due("10 and 20", 2, x.count(1));
        due("cycles(10, 120, 1)", true, x.cycles(10, 120, 1));
        due("51 of one offset, 60 of two", 171, x.count(1));
    }

    private static void step() {
        WaveOffsets x = new WaveOffsets();
        x.crossing(5, 10);
        x.crossing(5, 10);
        x.cycles(50, 50, 1);
        int[][] rows = {{1, 50}, {7, 8}, {10, 5}, {49, 2}, {50, 1}, {60, 1}};
        for (int[] r : rows) {
            due("step(" + r[0] + ")", true, x.step(r[0]));
            due("rows with step " + r[0], r[1], x.count(1));
        }
        x.step(7);
        int[] none = {0, 61, -1, -7, LOW, HIGH};
        for (int s : none) {
            due("step(" + s + ")", false, x.step(s));
        }
        due("wrong steps change nothing", 8, x.count(1));
        // Offsets 0, 7, .. 49: the last one is the only one that leads from 49 to a full band.
        x.street(0, 1, 49, 1);
        x.run(0, ALL);
        due("the last offset below the cycle", 49, x.offset(1));
    }

    private static void queue() {
        WaveOffsets x = pair();
        int[][] none = {{2, 0}, {-1, 0}, {0, -1}, {0, 30}, {1, 31}, {LOW, 0}, {HIGH, 0}, {0, LOW}, {0, HIGH}};
        for (int[] q : none) {
            due("queue(" + q[0] + ", " + q[1] + ")", false, x.queue(q[0], q[1]));
        }
        due("queue(0, 29)", true, x.queue(0, 29));
        due("one open second", 1, x.bound(0));
        due("of 30", 30, x.bound(1));
        due("queue(0, 0)", true, x.queue(0, 0));
        due("queue(1, 10)", true, x.queue(1, 10));
        // Offset 20: forward all 20 open seconds, backward 15; offset 30 the other way round.
        due("run with a queue", 60, x.run(0, ALL));
        due("offset with a queue", 20, x.offset(1));
        due("forward upper", 1, x.width(0, 0));
        due("forward lower", 3, x.width(0, 1));
        due("backward upper", 1, x.width(1, 0));
        due("backward lower", 4, x.width(1, 1));
        due("stops upper", 1, x.stops(0));
        due("stops lower", 4, x.stops(1));
        x.queue(1, 0);
        x.run(0, ALL);
        due("no queue again", 30, x.offset(1));
        // The other crossing's queue, offset 30: forward all 20 open seconds, backward 15 of 30.
        x.queue(0, 10);
        x.run(0, ALL);
        due("queue of crossing 0: offset", 30, x.offset(1));
        due("queue of crossing 0: stops upper", 1, x.stops(0));
        due("queue of crossing 0: stops lower", 4, x.stops(1));
    }

    private static void runRefuses() {
        WaveOffsets x = new WaveOffsets();
        due("run without crossings", -1, x.run(0, ALL));
        x.crossing(30, 60);
        due("run with one crossing", -1, x.run(0, ALL));
        x.crossing(30, 70);
        due("run with two", 70, x.run(0, ALL));
        int[] aims = {-1, 2, LOW, HIGH};
        for (int aim : aims) {
            due("run(" + aim + ")", -1, x.run(aim, ALL));
        }
        long[] nodes = {0L, -1L, 200001L, Long.MIN_VALUE, Long.MAX_VALUE, 1L << 32, (1L << 32) + 1L};
        for (long n : nodes) {
            due("run with " + n + " nodes", -1, x.run(0, n));
            due("run with " + n + " nodes, aim 1", -1, x.run(1, n));
        }
        due("run with 1 node", 70, x.run(1, 1L));
        x.cycles(10, 69, 1);
        due("no cycle can be", -1, x.run(0, ALL));
        x.cycles(10, 70, 60);
        due("the last cycle can be", 70, x.run(0, ALL));
        x = new WaveOffsets();
        x.crossing(30, 70);
        x.crossing(30, 60);
        due("the first crossing has the greatest least", 70, x.run(0, ALL));
    }

    private static void runGoesInOrder() {
        WaveOffsets x = pair();
        int[] best = {0, 10, 20, 30, 30, 30, 30};
        for (int n = 1; n <= best.length; n++) {
            due("run(0, " + n + ")", 60, x.run(0, n));
            due("best of " + n, best[n - 1], x.offset(1));
            due("proved with " + n, n >= 6, x.proved());
        }
        // The last crossing's offset changes first. With offset 0 of crossing 1 at most 20 seconds go
        // through (crossing 2 at 30 or 40); all 30 do with 10 and 40, in row 6 + 5.
        x.crossing(30, 60);
        x.street(0, 1, 10, 1);
        x.street(1, 0, 10, 0);
        x.street(1, 2, 30, 1);
        int[][] rows = {{1, 0, 0}, {3, 0, 20}, {4, 0, 30}, {6, 0, 30}, {10, 0, 30}, {11, 10, 40}, {36, 10, 40}};
        for (int[] r : rows) {
            x.run(0, r[0]);
            due(r[0] + " rows: crossing 1", r[1], x.offset(1));
            due(r[0] + " rows: crossing 2", r[2], x.offset(2));
            due(r[0] + " rows: proved", r[0] == 36, x.proved());
        }
        due("all: width", 1, x.width(0, 0));
    }

    private static void runComparesCycles() {
        WaveOffsets x = pair();
        x.street(1, 0, 25, 0);
        x.cycles(60, 70, 10);
        due("rows of 60 and 70", 13, x.count(1));
        // 5 of 60 stop at best; in the ninth row, the third of 70, it is 5 of 70.
        due("aim 1, eight rows", 60, x.run(1, 8L));
        due("aim 1, eight rows: offset", 20, x.offset(1));
        due("aim 1, nine rows", 70, x.run(1, 9L));
        due("aim 1, nine rows: offset", 20, x.offset(1));
        due("aim 1: stops", 1, x.stops(0));
        due("aim 1: of", 14, x.stops(1));
        due("aim 0: 25 of 60 before 25 of 70", 60, x.run(0, ALL));

        x = new WaveOffsets();
        x.crossing(10, 60);
        x.crossing(10, 60);
        x.step(60);
        x.street(0, 1, 65, 1);
        x.cycles(60, 70, 5);
        due("5 of 60, 10 of 65, 5 of 70", 65, x.run(0, ALL));
        due("offset of 65", 0, x.offset(1));
        due("band of 65, upper", 2, x.width(0, 0));
        due("band of 65, lower", 13, x.width(0, 1));
        due("one row", 60, x.run(0, 1L));
        due("two rows", 65, x.run(0, 2L));
    }

    private static void runBreaksTies() {
        WaveOffsets x = new WaveOffsets();
        x.crossing(30, 50);
        x.crossing(30, 60);
        x.crossing(30, 40);
        for (int aim = 0; aim < 2; aim++) {
            due("no weights: the least cycle", 60, x.run(aim, ALL));
            due("no weights: offset 1", 0, x.offset(1));
            due("no weights: offset 2", 0, x.offset(2));
        }
        x = pair();
        x.cycles(60, 120, 60);
        x.street(0, 1, 20, 1);
        x.street(1, 0, 40, 0);
        due("no stops in both cycles: the lesser", 60, x.run(1, ALL));
        due("the offset of no stops", 20, x.offset(1));
        x.street(0, 1, 25, 1);
        x.cycles(60, 60, 1);
        x.run(1, ALL);
        due("20 and 30 are equal: the lesser", 20, x.offset(1));
    }

    private static void proved() {
        WaveOffsets x = pair();
        x.cycles(60, 70, 10);
        x.step(30);
        due("proved before run", false, x.proved());
        due("rows", 5, x.count(1));
        x.run(0, 4L);
        due("four of five", false, x.proved());
        x.run(0, 5L);
        due("five of five", true, x.proved());
        x.run(1, ALL);
        due("more than all", true, x.proved());
        x.run(1, 1L);
        due("one of five", false, x.proved());
    }

    private static void bound() {
        WaveOffsets x = new WaveOffsets();
        due("bound without crossings", -1, x.bound(0));
        x.crossing(30, 60);
        due("bound with one crossing", -1, x.bound(1));
        x.crossing(20, 60);
        due("no weights: upper", 0, x.bound(0));
        due("no weights: lower", 1, x.bound(1));
        x.street(0, 1, 25, 3);
        x.street(1, 0, 25, 4);
        due("7 * 20 / 60: upper", 7, x.bound(0));
        due("7 * 20 / 60: lower", 3, x.bound(1));
        x.queue(0, 15);
        due("7 * 15 / 60: upper", 7, x.bound(0));
        due("7 * 15 / 60: lower", 4, x.bound(1));
        x.cycles(50, 120, 30);
        due("7 * 15 / 80: upper", 21, x.bound(0));
        due("7 * 15 / 80: lower", 16, x.bound(1));
        int[] parts = {-1, 2, LOW, HIGH};
        for (int part : parts) {
            due("bound(" + part + ")", -1, x.bound(part));
        }
        x.cycles(10, 59, 1);
        due("no cycle: upper", 0, x.bound(0));
        due("no cycle: lower", 1, x.bound(1));
        due("no cycle: another part", -1, x.bound(2));
    }

    private static void offset() {
        WaveOffsets x = pair();
        due("offset before run", -1, x.offset(1));
        x.run(0, ALL);
        due("offset(0)", 0, x.offset(0));
        due("offset(1)", 30, x.offset(1));
        int[] none = {-1, 2, LOW, HIGH};
        for (int k : none) {
            due("offset(" + k + ")", -1, x.offset(k));
        }
    }

    private static void green() {
        WaveOffsets x = pair();
        x.queue(0, 5);
        due("green before run", -1, x.green(0, 0));
        x.queue(0, 0);
        x.run(0, ALL);
        due("green(1, 0)", 30, x.green(1, 0));
        due("green(1, 1)", 0, x.green(1, 1));
        due("green(1, 2)", 30, x.green(1, 2));
        due("green(0, 0)", 0, x.green(0, 0));
        due("green(0, 1)", 30, x.green(0, 1));
        int[][] none = {{0, -1}, {0, 3}, {-1, 0}, {2, 0}, {0, LOW}, {0, HIGH}, {LOW, 0}, {HIGH, 0}};
        for (int[] g : none) {
            due("green(" + g[0] + ", " + g[1] + ")", -1, x.green(g[0], g[1]));
        }
        x.street(0, 1, 50, 1);
        x.street(1, 0, 50, 0);
        x.queue(1, 15);
        x.queue(0, 15);
        x.run(0, ALL);
        due("late: offset", 50, x.offset(1));
        due("late: begins", 50, x.green(1, 0));
        due("late: ends in the next cycle", 20, x.green(1, 1));
        due("late: opens in the next cycle", 5, x.green(1, 2));
        x = unevenPair();
        x.queue(0, 3);
        x.queue(1, 3);
        x.run(0, ALL);
        due("uneven: begins", 40, x.green(1, 0));
        due("uneven: ends", 10, x.green(1, 1));
        due("uneven: opens", 43, x.green(1, 2));
    }

    private static void width() {
        WaveOffsets x = pair();
        due("width before run", -1, x.width(0, 0));
        x.run(0, ALL);
        due("forward upper", 5, x.width(0, 0));
        due("forward lower", 12, x.width(0, 1));
        due("backward upper", 5, x.width(1, 0));
        due("backward lower", 12, x.width(1, 1));
        int[][] none = {{-1, 0}, {2, 0}, {0, -1}, {0, 2}, {LOW, 0}, {HIGH, 1}, {1, LOW}, {1, HIGH}};
        for (int[] w : none) {
            due("width(" + w[0] + ", " + w[1] + ")", -1, x.width(w[0], w[1]));
        }
        x.street(0, 1, 30, 1);
        x.step(60);
        x.run(0, ALL);
        due("no band: upper", 0, x.width(0, 0));
        due("no band: lower", 1, x.width(0, 1));
    }

    private static void stops() {
        WaveOffsets x = pair();
        due("stops before run", -1, x.stops(0));
        x.run(0, ALL);
        due("5 and 5 of 60: upper", 1, x.stops(0));
        due("5 and 5 of 60: lower", 6, x.stops(1));
        int[] none = {-1, 2, LOW, HIGH};
        for (int part : none) {
            due("stops(" + part + ")", -1, x.stops(part));
        }
        x.street(0, 1, 25, 0);
        x.street(1, 0, 25, 0);
        x.run(1, ALL);
        due("no weights: upper", 0, x.stops(0));
        due("no weights: lower", 1, x.stops(1));
        x.street(0, 1, 30, 4);
        x.step(60);
        x.run(1, ALL);
        due("all stop: upper", 2, x.stops(0));
        due("all stop: lower", 1, x.stops(1));
    }

    /** All offsets 0, so that each street's part can be counted. */
    private static void threeCrossings() {
        WaveOffsets x = new WaveOffsets();
        x.crossing(30, 60);
        x.crossing(30, 60);
        x.crossing(30, 60);
        x.cycles(60, 60, 1);
        x.step(60);
        x.street(0, 1, 10, 2);
        x.street(1, 2, 10, 3);
        x.street(2, 1, 20, 5);
        x.street(1, 0, 1, 7);
        due("three: run", 60, x.run(0, ALL));
        due("three: forward upper", 1, x.width(0, 0));
        due("three: forward lower", 6, x.width(0, 1));
        due("three: backward upper", 3, x.width(1, 0));
        due("three: backward lower", 20, x.width(1, 1));
        due("three: stops upper", 157, x.stops(0));
        due("three: stops lower", 60, x.stops(1));
        due("three: bound upper", 17, x.bound(0));
        due("three: bound lower", 2, x.bound(1));
    }

    private static void threeCrossingsApart() {
        WaveOffsets x = new WaveOffsets();
        x.crossing(30, 60);
        x.crossing(30, 60);
        x.crossing(30, 60);
        x.cycles(60, 60, 1);
        x.step(10);
        x.street(0, 1, 10, 1);
        x.street(1, 2, 20, 1);
        for (int aim = 0; aim < 2; aim++) {
            x.run(aim, ALL);
            due("apart: offset 1", 10, x.offset(1));
            due("apart: offset 2", 30, x.offset(2));
            due("apart: nobody stops", 0, x.stops(0));
            due("apart: upper", 1, x.width(0, 0));
            due("apart: lower", 2, x.width(0, 1));
        }
    }

    private static void longCycle() {
        WaveOffsets x = new WaveOffsets();
        x.crossing(30, 120);
        x.crossing(30, 120);
        x.street(1, 0, 40, 1);
        x.run(0, ALL);
        due("a band late in the cycle: offset", 80, x.offset(1));
        due("a band late in the cycle: upper", 1, x.width(1, 0));
        due("a band late in the cycle: lower", 4, x.width(1, 1));
        x = new WaveOffsets();
        x.crossing(90, 120);
        x.crossing(90, 120);
        x.street(0, 1, 10, 1);
        x.run(0, ALL);
        due("a wide band: offset", 10, x.offset(1));
        due("a wide band: upper", 3, x.width(0, 0));
        due("a wide band: lower", 4, x.width(0, 1));
        x.step(1);
        x.street(0, 1, 119, 1);
        for (int aim = 0; aim < 2; aim++) {
            x.run(aim, ALL);
            due("the last offset of all", 119, x.offset(1));
        }
    }

    private static void arrive() {
        WaveOffsets x = new WaveOffsets();
        due("arrive without crossings", false, x.arrive(0, 0, 0, 1));
        x = pair();
        int[][] none = {
            {1, 0, 0, 1}, {0, 1, 0, 1}, {2, 1, 0, 1}, {-1, 0, 0, 1}, {0, -1, 0, 1}, {0, 2, 0, 1}, {1, 2, 0, 1},
            {0, 0, -1, 1}, {0, 0, 10001, 1}, {0, 0, 0, 0}, {0, 0, 0, 1001}, {HIGH, 0, 0, 1}, {LOW, 1, 0, 1},
            {0, HIGH, 0, 1}, {0, LOW, 0, 1}, {0, 0, HIGH, 1}, {0, 0, LOW, 1}, {0, 0, 0, HIGH}, {0, 0, 0, LOW},
        };
        for (int[] a : none) {
            due("arrive(" + a[0] + ", " + a[1] + ", " + a[2] + ", " + a[3] + ")", false, x.arrive(a[0], a[1], a[2], a[3]));
        }
        due("none told", 0, x.count(2));
        due("arrive(0, 0, 0, 1)", true, x.arrive(0, 0, 0, 1));
        due("arrive(1, 1, 10000, 1000)", true, x.arrive(1, 1, 10000, 1000));
        for (int i = 2; i < 40; i++) {
            due("arrival " + i, true, x.arrive(0, 0, i, 1));
        }
        due("40 told", 40, x.count(2));
        due("one more", false, x.arrive(0, 0, 0, 1));
        due("still 40", 40, x.count(2));
    }

    private static void delay() {
        WaveOffsets x = planned();
        due("nobody came: waits", 0, x.delay(0));
        due("nobody came: through", 0, x.delay(1));
        x.arrive(0, 0, 29, 3);
        x.arrive(0, 0, 30, 2);
        x.arrive(0, 0, 59, 4);
        x.arrive(0, 0, 60, 5);
        x.arrive(1, 1, 29, 1);
        x.arrive(1, 1, 30, 6);
        x.arrive(0, 0, 10000, 7);
        due("waits: 3 * 1 + 5 * 30 + 6 * 30", 333, x.delay(0));
        due("through: 2 + 4 + 1 + 7", 14, x.delay(1));
        int[] none = {-1, 2, LOW, HIGH};
        for (int part : none) {
            due("delay(" + part + ")", -1, x.delay(part));
        }
        x.queue(1, 10);
        due("delay with nothing at hand", -1, x.delay(1));
        // Now the offset is 20 and crossing 1 is open from 30 to 50.
        x.run(0, ALL);
        due("waits: 3 * 1 + 4 * 31 + 5 * 30 + 6 * 30", 457, x.delay(0));
        due("through: 2 + 1 + 7", 10, x.delay(1));
        x.arrive(0, 0, 20, 1000);
        due("cars in the queue wait", 10457, x.delay(0));
        x = unevenPair();
        x.arrive(0, 0, 5, 4);
        x.arrive(0, 0, 15, 2);
        x.run(0, ALL);
        due("uneven: waits 2 * 25", 50, x.delay(0));
        due("uneven: through", 4, x.delay(1));
    }

    private static void plan() {
        WaveOffsets x = pair();
        due("plan before run", -1, x.plan(0));
        x.run(0, ALL);
        int[] none = {-1, 24, LOW, HIGH};
        for (int hour : none) {
            due("plan(" + hour + ")", -1, x.plan(hour));
        }
        due("no hours", 0, x.count(3));
        due("plan(0)", 1, x.plan(0));
        due("plan(23)", 2, x.plan(23));
        due("plan(0) again", 2, x.plan(0));
        due("two hours", 2, x.count(3));
        x.step(60);
        x.run(0, ALL);
        due("the hour keeps its plan", 0, x.change(0, 23));
        due("plan(0) anew", 2, x.plan(0));
        due("from 0 to 30", 30, x.change(0, 23));
    }

    /** Plans of crossing 1: hour 3: 50 of 60, hour 4: 0 of 60, hour 7: 70 of 100. */
    private static WaveOffsets threeHours() {
        WaveOffsets x = pair();
        x.street(1, 0, 1, 0);
        x.street(0, 1, 49, 1);
        x.run(0, ALL);
        due("hour 3: offset", 50, x.offset(1));
        x.plan(3);
        x.step(60);
        x.run(0, ALL);
        due("hour 4: offset", 0, x.offset(1));
        x.plan(4);
        x.step(10);
        x.cycles(100, 100, 1);
        x.street(0, 1, 70, 1);
        due("hour 7: cycle", 100, x.run(0, ALL));
        due("hour 7: offset", 70, x.offset(1));
        due("three hours", 3, x.plan(7));
        return x;
    }

    private static void change() {
        WaveOffsets x = threeHours();
        due("change(3, 4): round the end", 10, x.change(3, 4));
        due("change(4, 3)", 10, x.change(4, 3));
        due("change(4, 4)", 0, x.change(4, 4));
        due("change(4, 7): 70 of 100", 130, x.change(4, 7));
        due("change(7, 4): 70 is 10 of 60", 110, x.change(7, 4));
        due("change(7, 3): 10 to 50 of 60", 120, x.change(7, 3));
        int[][] none = {{3, 5}, {5, 3}, {5, 5}, {-1, 3}, {3, -1}, {24, 3}, {3, 24}, {LOW, 3}, {3, LOW}, {HIGH, 3}, {3, HIGH}};
        for (int[] c : none) {
            due("change(" + c[0] + ", " + c[1] + ")", -1, x.change(c[0], c[1]));
        }
        due("change in a new object", -1, new WaveOffsets().change(0, 0));
    }

    private static void changeAfterCrossings() {
        WaveOffsets x = threeHours();
        x.crossing(4, 60);
        due("a refused crossing came not", 10, x.change(3, 4));
        x.crossing(30, 60);
        due("a crossing came", -1, x.change(3, 4));
        due("also within an hour", -1, x.change(3, 3));
        due("day", -1, x.day());
        due("hours stay", 3, x.count(3));
        x.run(0, 1L);
        due("plan anew", 3, x.plan(3));
        due("the new one with itself", 0, x.change(3, 3));
        due("from a new one to an old one", -1, x.change(3, 4));
        due("from an old one to a new one", -1, x.change(4, 3));
        due("day with both", -1, x.day());
        x.plan(4);
        x.plan(7);
        due("all new", 0, x.change(3, 4));
        due("day, all new", 0, x.day());
    }

    private static void day() {
        WaveOffsets x = threeHours();
        due("10 + 130 + 120", 260, x.day());
        x = planned();
        due("no hour", 0, x.day());
        x.plan(23);
        due("one hour", 0, x.day());
        x.crossing(30, 60);
        due("one hour, after a crossing came", 0, x.day());
        x = planned();
        x.plan(0);
        x.step(60);
        x.run(0, ALL);
        x.plan(23);
        due("there and back", 60, x.day());
    }

    private static void command() {
        WaveOffsets x = pair();
        due("command before run", -1, x.command(0, 0));
        x.run(0, ALL);
        int[][] seconds = {{0, 0, 0}, {0, 1, 30}, {0, 2, 60}, {1, 0, 30}, {1, 1, 60}, {1, 2, 90}, {1, 3, 120},
            {1, 9999, 300000}, {1, 10000, 300030}};
        for (int[] s : seconds) {
            due("command(" + s[0] + ", " + s[1] + ")", s[2], x.command(s[0], s[1]));
        }
        int[][] none = {{-1, 0}, {2, 0}, {0, -1}, {0, 10001}, {LOW, 0}, {HIGH, 0}, {0, LOW}, {0, HIGH}};
        for (int[] c : none) {
            due("command(" + c[0] + ", " + c[1] + ")", -1, x.command(c[0], c[1]));
        }
        x.street(0, 1, 50, 1);
        x.street(1, 0, 1, 0);
        x.run(0, ALL);
        due("a green that goes on from before 0 is not shown", 50, x.command(1, 0));
        due("and its end neither", 80, x.command(1, 1));
    }

    private static void fits() {
        WaveOffsets x = pair();
        due("fits before run", false, x.fits(0));
        x.run(0, ALL);
        due("fits(0)", true, x.fits(0));
        due("fits(1)", true, x.fits(1));
        int[] none = {-1, 2, LOW, HIGH};
        for (int k : none) {
            due("fits(" + k + ")", false, x.fits(k));
        }
    }

    private static void count() {
        WaveOffsets x = pair();
        due("crossings", 2, x.count(0));
        due("rows", 6, x.count(1));
        due("aim, nothing at hand", -1, x.count(4));
        x.run(1, ALL);
        due("aim 1", 1, x.count(4));
        x.run(0, ALL);
        due("aim 0", 0, x.count(4));
        x.arrive(0, 0, 0, 1000);
        due("arrivals, not cars", 1, x.count(2));
        x.plan(5);
        due("hours", 1, x.count(3));
        int[] none = {-1, 5, LOW, HIGH};
        for (int what : none) {
            due("count(" + what + ")", -1, x.count(what));
        }
        x.cycles(10, 59, 1);
        due("no cycle, no rows", 0, x.count(1));
        x = new WaveOffsets();
        for (int k = 0; k < 5; k++) {
            x.crossing(5, 10);
        }
        x.cycles(10, 120, 1);
        x.step(1);
        long rows = 0;
        for (long c = 10; c <= 120; c++) {
            rows += c * c * c * c;
        }
        due("rows beyond an int", rows, x.count(1));
    }

    /** As many calls as an object is made for, each a search over the most rows. */
    private static void longestSearch() {
        WaveOffsets x = new WaveOffsets();
        for (int k = 0; k < 5; k++) {
            x.crossing(50 + k, 120);
        }
        for (int k = 0; k < 4; k++) {
            x.street(k, k + 1, 13 + 7 * k, 50 + k);
            x.street(k + 1, k, 31 - 5 * k, 60 - k);
        }
        x.step(3);
        for (int call = 14; call < 512; call++) {
            due("longest search", 120, x.run(call & 1, ALL));
        }
    }
}
