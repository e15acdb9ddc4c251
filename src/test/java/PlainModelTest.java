/**
 * Long made-up runs of calls on WaveOffsets and on a plain model, which looks at every second of
 * every row as the document's terms say it. Prints each call whose answers differ.
 */
public final class PlainModelTest {
    private static final int CALLS = 512;
    private static int wrong = 0;
    private static long seed = 20261115L;

    public static void main(String[] args) {
        for (int run = 0; run < 400; run++) {
            compareRun(run, 2000L);
        }
        for (int run = 400; run < 404; run++) {
            compareRun(run, 200000L);
        }
        System.out.println(wrong == 0 ? "model: all answers agree" : "model: " + wrong + " answers differ");
        if (wrong != 0) {
            System.exit(1);
        }
    }

    private static int below(int n) {
        seed = seed * 6364136223846793005L + 1442695040888963407L;
        return (int) Long.remainderUnsigned(seed >>> 33, n);
    }

    private static int between(int least, int most) {
        return least + below(most - least + 1);
    }

    /** Mostly a number of the range, now and then one at its edges, just outside or far away. */
    private static int around(int least, int most) {
        switch (below(40)) {
            case 0: return least - 1;
            case 1: return most + 1;
            case 2: return below(2) == 0 ? Integer.MIN_VALUE : Integer.MAX_VALUE;
            case 3: return least;
            case 4: return most;
            default: return between(least, most);
        }
    }

    private static void compareRun(int run, long mostNodes) {
        WaveOffsets x = new WaveOffsets();
        Model m = new Model();
        int crossings = 2 + below(4);
        // Some runs keep their crossings, so that plans of several hours can be compared.
        boolean late = below(3) == 0;
        for (int i = 0; i < crossings; i++) {
            int green = between(5, below(2) == 0 ? 30 : 90);
            int least = between(Math.max(10, green + 1), Math.min(120, Math.max(10, green + 1) + 40));
            due(run, i, "crossing(" + green + ", " + least + ")", x.crossing(green, least), m.crossing(green, least));
        }
        for (int call = crossings; call < CALLS; call++) {
            oneCall(run, call, x, m, late, mostNodes);
        }
    }

    private static void oneCall(int run, int call, WaveOffsets x, Model m, boolean late, long mostNodes) {
        int a = around(0, 4);
        int b = below(4) == 0 ? around(0, 4) : a + (below(2) == 0 ? 1 : -1);
        int part = around(0, 1);
        switch (below(30)) {
            case 0: {
                int green = around(5, 90);
                int least = around(10, 120);
                if (late && below(20) == 0) {
                    due(run, call, "crossing(" + green + ", " + least + ")", x.crossing(green, least), m.crossing(green, least));
                }
                break;
            }
            case 1: case 2: {
                int seconds = around(1, below(2) == 0 ? 30 : 200);
                int weight = around(0, below(2) == 0 ? 3 : 100);
                due(run, call, "street(" + a + ", " + b + ", " + seconds + ", " + weight + ")",
                        x.street(a, b, seconds, weight), m.street(a, b, seconds, weight));
                break;
            }
            case 3: {
                int first = around(10, 120);
                int last = below(3) == 0 ? around(10, 120) : 120;
                int by = below(2) == 0 ? around(1, 20) : around(1, 110);
                due(run, call, "cycles(" + first + ", " + last + ", " + by + ")",
                        x.cycles(first, last, by), m.cycles(first, last, by));
                break;
            }
            case 4: {
                int seconds = around(1, below(2) == 0 ? 10 : 60);
                due(run, call, "step(" + seconds + ")", x.step(seconds), m.step(seconds));
                break;
            }
            case 5: {
                int seconds = below(2) == 0 ? around(0, 4) : around(0, 89);
                due(run, call, "queue(" + a + ", " + seconds + ")", x.queue(a, seconds), m.queue(a, seconds));
                break;
            }
            case 6: case 7: case 8: case 9: {
                int aim = around(0, 1);
                long nodes = below(30) == 0 ? (below(2) == 0 ? 0L : 200001L) : 1L + below((int) mostNodes);
                if (below(3) == 0 && m.count(1) >= 2 && m.count(1) <= mostNodes) {
                    nodes = m.count(1) - below(2);
                }
                if (mostNodes > 2000L && below(20) != 0) {
                    nodes = 1L + below(500);
                }
                due(run, call, "run(" + aim + ", " + nodes + ")", x.run(aim, nodes), m.run(aim, nodes));
                break;
            }
            case 10: due(run, call, "proved()", x.proved(), m.proved()); break;
            case 11: due(run, call, "bound(" + part + ")", x.bound(part), m.bound(part)); break;
            case 12: case 13: due(run, call, "offset(" + a + ")", x.offset(a), m.offset(a)); break;
            case 14: {
                int phase = around(0, 2);
                due(run, call, "green(" + a + ", " + phase + ")", x.green(a, phase), m.green(a, phase));
                break;
            }
            case 15: case 16: {
                int way = around(0, 1);
                due(run, call, "width(" + way + ", " + part + ")", x.width(way, part), m.width(way, part));
                break;
            }
            case 17: case 18: due(run, call, "stops(" + part + ")", x.stops(part), m.stops(part)); break;
            case 19: {
                int way = around(0, 1);
                int second = around(0, 10000);
                int cars = around(1, 1000);
                due(run, call, "arrive(" + a + ", " + way + ", " + second + ", " + cars + ")",
                        x.arrive(a, way, second, cars), m.arrive(a, way, second, cars));
                break;
            }
            case 20: case 21: due(run, call, "delay(" + part + ")", x.delay(part), m.delay(part)); break;
            case 22: {
                int hour = around(0, 23);
                due(run, call, "plan(" + hour + ")", x.plan(hour), m.plan(hour));
                break;
            }
            case 23: case 24: {
                int hourA = around(0, 23);
                int hourB = around(0, 23);
                due(run, call, "change(" + hourA + ", " + hourB + ")", x.change(hourA, hourB), m.change(hourA, hourB));
                break;
            }
            case 25: due(run, call, "day()", x.day(), m.day()); break;
            case 26: {
                int i = around(0, 10000);
                due(run, call, "command(" + a + ", " + i + ")", x.command(a, i), m.command(a, i));
                break;
            }
            case 27: due(run, call, "fits(" + a + ")", x.fits(a), m.fits(a)); break;
            default: {
                int what = around(0, 4);
                due(run, call, "count(" + what + ")", x.count(what), m.count(what));
                break;
            }
        }
    }

    private static void due(int run, int call, String text, boolean got, boolean want) {
        due(run, call, text, got ? 1L : 0L, want ? 1L : 0L);
    }

    private static void due(int run, int call, String text, long got, long want) {
        if (got != want) {
            wrong++;
            if (wrong <= 50) {
                System.out.println("run " + run + ", call " + call + ": " + text + " answered " + got + ", due is " + want);
            }
        }
    }

    /** The document's words, done the slow way. */
    private static final class Model {
        final java.util.List<int[]> crossings = new java.util.ArrayList<>();
        final int[][][] streets = new int[5][5][];
        final java.util.List<int[]> arrivals = new java.util.ArrayList<>();
        final java.util.TreeMap<Integer, int[]> hours = new java.util.TreeMap<>();
        int first = 10;
        int last = 120;
        int by = 10;
        int step = 5;
        int[] plan = null;
        int cycle;
        int aim;
        boolean all;
        long looked;
        long mostLooks;
        long bestUpper;

        Model() {
            for (int a = 0; a < 5; a++) {
                for (int b = 0; b < 5; b++) {
                    streets[a][b] = new int[] {1, 0};
                }
            }
        }

        int n() {
            return crossings.size();
        }

        boolean has(int k) {
            return k >= 0 && k < n();
        }

        int crossing(int green, int least) {
            if (green < 5 || green > 90 || least < 10 || least > 120 || least <= green || n() == 5) {
                return -1;
            }
            crossings.add(new int[] {green, least, 0});
            plan = null;
            return n() - 1;
        }

        boolean street(int a, int b, int seconds, int weight) {
            if (!has(a) || !has(b) || Math.abs(a - b) != 1) {
                return false;
            }
            if (seconds < 1 || seconds > 200 || weight < 0 || weight > 100) {
                return false;
            }
            streets[a][b] = new int[] {seconds, weight};
            plan = null;
            return true;
        }

        boolean cycles(int f, int l, int b) {
            if (!(10 <= f && f <= l && l <= 120 && 1 <= b && b <= 110)) {
                return false;
            }
            first = f;
            last = l;
            by = b;
            plan = null;
            return true;
        }

        boolean step(int s) {
            if (s < 1 || s > 60) {
                return false;
            }
            step = s;
            plan = null;
            return true;
        }

        boolean queue(int k, int s) {
            if (!has(k) || s < 0 || s >= crossings.get(k)[0]) {
                return false;
            }
            crossings.get(k)[2] = s;
            plan = null;
            return true;
        }

        boolean canBe(int c) {
            for (int[] x : crossings) {
                if (x[1] > c) {
                    return false;
                }
            }
            return true;
        }

        boolean open(int k, int t, int[] offsets, int c) {
            int phase = Math.floorMod(t - offsets[k], c);
            return phase < crossings.get(k)[0] && phase >= crossings.get(k)[2];
        }

        int[] route(int way) {
            int[] r = new int[n()];
            for (int i = 0; i < n(); i++) {
                r[i] = way == 0 ? i : n() - 1 - i;
            }
            return r;
        }

        int weight(int way) {
            int sum = 0;
            int[] r = route(way);
            for (int i = 1; i < r.length; i++) {
                sum += streets[r[i - 1]][r[i]][1];
            }
            return sum;
        }

        int band(int way, int[] offsets, int c) {
            int[] r = route(way);
            int seconds = 0;
            for (int t = 0; t < c; t++) {
                int at = t;
                boolean through = open(r[0], at, offsets, c);
                for (int i = 1; i < r.length && through; i++) {
                    at += streets[r[i - 1]][r[i]][0];
                    through = open(r[i], at, offsets, c);
                }
                seconds += through ? 1 : 0;
            }
            return seconds;
        }

        int allStops(int[] offsets, int c) {
            int sum = 0;
            for (int way = 0; way < 2; way++) {
                int[] r = route(way);
                for (int i = 1; i < r.length; i++) {
                    int[] street = streets[r[i - 1]][r[i]];
                    for (int t = 0; t < c; t++) {
                        if (open(r[i - 1], t, offsets, c) && !open(r[i], t + street[0], offsets, c)) {
                            sum += street[1];
                        }
                    }
                }
            }
            return sum;
        }

        int run(int ofAim, long nodes) {
            if ((ofAim != 0 && ofAim != 1) || nodes < 1 || nodes > 200000 || n() < 2) {
                return -1;
            }
            boolean some = false;
            for (int c = first; c <= last; c += by) {
                some |= canBe(c);
            }
            if (!some) {
                return -1;
            }
            plan = null;
            aim = ofAim;
            looked = 0;
            mostLooks = nodes;
            for (int c = first; c <= last; c += by) {
                if (canBe(c)) {
                    rows(1, new int[n()], c);
                }
            }
            all = looked == count(1);
            return cycle;
        }

        void rows(int k, int[] offsets, int c) {
            if (k == n()) {
                if (looked < mostLooks) {
                    looked++;
                    look(offsets, c);
                }
                return;
            }
            for (int o = 0; o < c && looked < mostLooks; o += step) {
                offsets[k] = o;
                rows(k + 1, offsets, c);
            }
        }

        void look(int[] offsets, int c) {
            long upper = aim == 0
                    ? (long) band(0, offsets, c) * weight(0) + (long) band(1, offsets, c) * weight(1)
                    : allStops(offsets, c);
            boolean better = plan == null
                    || (aim == 0 ? upper * cycle > bestUpper * c : upper * cycle < bestUpper * c);
            if (better) {
                plan = offsets.clone();
                cycle = c;
                bestUpper = upper;
            }
        }

        boolean proved() {
            return plan != null && all;
        }

        long part(long upper, long lower, int part) {
            for (long d = lower; d > 1; d--) {
                if (upper % d == 0 && lower % d == 0) {
                    return part == 0 ? upper / d : lower / d;
                }
            }
            return part == 0 ? upper : lower;
        }

        long bound(int part) {
            if ((part != 0 && part != 1) || n() < 2) {
                return -1;
            }
            int least = Integer.MAX_VALUE;
            for (int[] x : crossings) {
                least = Math.min(least, x[0] - x[2]);
            }
            long upper = 0;
            long lower = 1;
            for (int c = first; c <= last; c += by) {
                long here = (long) weight(0) * least + (long) weight(1) * least;
                if (canBe(c) && here * lower > upper * c) {
                    upper = here;
                    lower = c;
                }
            }
            return part(upper, lower, part);
        }

        int offset(int k) {
            return plan == null || !has(k) ? -1 : plan[k];
        }

        int green(int k, int phase) {
            if (plan == null || !has(k) || phase < 0 || phase > 2) {
                return -1;
            }
            int[] add = {0, crossings.get(k)[0], crossings.get(k)[2]};
            return (plan[k] + add[phase]) % cycle;
        }

        long width(int way, int part) {
            if (plan == null || (way != 0 && way != 1) || (part != 0 && part != 1)) {
                return -1;
            }
            return part(band(way, plan, cycle), cycle, part);
        }

        long stops(int part) {
            if (plan == null || (part != 0 && part != 1)) {
                return -1;
            }
            return part(allStops(plan, cycle), cycle, part);
        }

        boolean arrive(int from, int way, int second, int cars) {
            if (!has(from) || (way != 0 && way != 1) || !has(from + (way == 0 ? 1 : -1))) {
                return false;
            }
            if (second < 0 || second > 10000 || cars < 1 || cars > 1000 || arrivals.size() == 40) {
                return false;
            }
            arrivals.add(new int[] {from + (way == 0 ? 1 : -1), second, cars});
            return true;
        }

        long delay(int part) {
            if (plan == null || (part != 0 && part != 1)) {
                return -1;
            }
            long waited = 0;
            long through = 0;
            for (int[] a : arrivals) {
                int t = a[1];
                while (!open(a[0], t, plan, cycle)) {
                    t++;
                }
                waited += (long) (t - a[1]) * a[2];
                through += t == a[1] ? a[2] : 0;
            }
            return part == 0 ? waited : through;
        }

        int plan(int hour) {
            if (plan == null || hour < 0 || hour > 23) {
                return -1;
            }
            int[] kept = java.util.Arrays.copyOf(plan, plan.length + 1);
            kept[plan.length] = cycle;
            hours.put(hour, kept);
            return hours.size();
        }

        long change(int a, int b) {
            int[] from = hours.get(a);
            int[] to = hours.get(b);
            if (from == null || to == null || from.length != n() + 1 || to.length != n() + 1) {
                return -1;
            }
            int c = to[n()];
            long sum = from[n()] == c ? 0 : 100;
            for (int k = 0; k < n(); k++) {
                int x = from[k] % c;
                int y = to[k] % c;
                int way = 0;
                while ((x + way) % c != y && Math.floorMod(x - way, c) != y) {
                    way++;
                }
                sum += way;
            }
            return sum;
        }

        long day() {
            if (hours.size() < 2) {
                return 0;
            }
            long sum = 0;
            for (int hour : hours.keySet()) {
                Integer next = hours.higherKey(hour);
                long cost = change(hour, next == null ? hours.firstKey() : next);
                if (cost == -1) {
                    return -1;
                }
                sum += cost;
            }
            return sum;
        }

        int command(int k, int i) {
            if (plan == null || !has(k) || i < 0 || i > 10000) {
                return -1;
            }
            int second = plan[k];
            for (int at = 0; at < i; at++) {
                second += at % 2 == 0 ? crossings.get(k)[0] : cycle - crossings.get(k)[0];
            }
            return second;
        }

        boolean fits(int k) {
            return plan != null && has(k) && crossings.get(k)[1] <= cycle;
        }

        long count(int what) {
            switch (what) {
                case 0: return n();
                case 1: {
                    long sum = 0;
                    for (int c = first; c <= last && n() > 0; c += by) {
                        long rows = 1;
                        for (int k = 1; k < n(); k++) {
                            long offsets = 0;
                            for (int o = 0; o < c; o += step) {
                                offsets++;
                            }
                            rows *= offsets;
                        }
                        sum += canBe(c) ? rows : 0;
                    }
                    return sum;
                }
                case 2: return arrivals.size();
                case 3: return hours.size();
                case 4: return plan == null ? -1 : aim;
                default: return -1;
            }
        }
    }
}
