import java.util.Random;

/** Whole runs of 512 calls, fit and unfit, of fixed seeds: each answer and each exception against SlowCalls. */
final class WildRunsTest {
    private static final Check CHECK = new Check("WildRunsTest");
    private static final int RUNS = 200;
    private static final int CALLS = 512;
    // The arguments' ranges; -1 and -2, -3 as the most: the numbers of pieces, vehicles, goods.
    private static final int[][] RANGES = {
        {0, 2, 1, 20000, 1, 999}, {-20, 60}, {1, 500}, {0, -1}, {0, -1, 1, 100}, {0, -1}, {0, -1, 0, 2},
        {0, -1, 1, 300}, {0, 120}, {500, 40000, 0, 60000, 1, 300}, {0, -2, 0, -3, 1, 60000}, {0, -2}, {0, -2},
        {0, -3, 1, 1000000}, {1, 3000}, {}, {0, -1, 0, 7}, {0, -1, 0, 1}, {0, -1, 0, 1}, {0, -2, 0, 6}, {0, -2},
        {0, -2, 0, -1}, {0, -2, 0, -1}, {0, -2, 0, -1}, {0, -3, 0, 4}, {0, -3}, {}};
    // How often each call is tried, in the order of SlowCalls.NAMES.
    private static final int[] OFTEN = {
        6, 14, 6, 4, 8, 16, 24, 4, 3, 10, 24, 40, 8, 5, 40, 2, 12, 4, 8, 12, 16, 5, 4, 3, 8, 3, 3};
    private static final int LOAD = 10;
    private static final int PASS = 14;
    private static final int[] ANSWERED = new int[SlowCalls.NAMES.length];
    private static final int[] REFUSED = new int[SlowCalls.NAMES.length];
    private static final int[] STATES = new int[5];

    public static void main(String[] args) {
        for (int seed = 1; seed <= RUNS; seed++) {
            run(new Random(seed), seed);
        }
        for (int i = 0; i < ANSWERED.length; i++) {
            CHECK.isTrue(SlowCalls.NAMES[i] + " answered", ANSWERED[i] > 0);
            CHECK.same(SlowCalls.NAMES[i] + " was refused", REFUSED[i] > 0, RANGES[i].length > 0);
        }
        for (int i = 0; i < STATES.length; i++) {
            CHECK.isTrue("state " + i + " was seen", STATES[i] > 0);
        }
        CHECK.end();
    }

    private static void run(Random random, int seed) {
        Icehighway road = new Icehighway();
        SlowCalls slow = new SlowCalls();
        StringBuilder told = new StringBuilder();
        int begun = winter(random, road, slow, seed);
        for (int i = begun; i < CALLS; i++) {
            int which = pick(random);
            int[] values = new int[3];
            int[] ranges = RANGES[which];
            for (int k = 0; 2 * k < ranges.length; k++) {
                values[k] = value(random, ranges[2 * k], most(slow, ranges[2 * k + 1]));
            }
            if (which == PASS && random.nextInt(8) > 0) {
                values[0] = 1 + random.nextInt(30);
            }
            if (which == LOAD && random.nextInt(4) > 0) {
                values[2] = justBorne(random, slow, values[0], values[2]);
            }
            if (!same(road, slow, SlowCalls.NAMES[which], values, told)) {
                System.out.println("seed " + seed + ", call " + i + ":" + told);
                return;
            }
        }
        CHECK.same("seed " + seed + ", all answers", Check.answers(road), slow.road.answers());
        for (SlowRoad.Car car : slow.road.cars) {
            STATES[car.state]++;
        }
    }

    /** As many kilos as the weakest piece just bears as is known, so that the next one may break through. */
    private static int justBorne(Random random, SlowCalls slow, int vehicle, int otherwise) {
        if (vehicle < 0 || vehicle >= slow.road.cars.size()) {
            return otherwise;
        }
        int weakest = Integer.MAX_VALUE;
        for (int p = 0; p < slow.road.pieces.size(); p++) {
            weakest = Math.min(weakest, slow.road.bears(p, true));
        }
        int kilos = weakest - slow.road.cars.get(vehicle).empty - random.nextInt(60);
        return kilos > 0 ? kilos : otherwise;
    }

    /** Every second run begins with thick ice and a road that is open, so that vehicles get far; so many calls. */
    private static int winter(Random random, Icehighway road, SlowCalls slow, int seed) {
        StringBuilder told = new StringBuilder();
        if (seed % 2 == 0) {
            return 0;
        }
        int pieces = 1 + random.nextInt(10);
        int calls = 0;
        for (int p = 0; p < pieces; p++, calls++) {
            int[] piece = {random.nextInt(3), 1 + random.nextInt(3000), 1 + random.nextInt(999)};
            same(road, slow, "piece", piece, told);
        }
        same(road, slow, "weather", new int[] {39, 0, 0}, told);
        int days = 4 + random.nextInt(16);
        for (int d = 0; d < days; d++, calls++) {
            same(road, slow, "pass", new int[] {2880, 0, 0}, told);
        }
        same(road, slow, "snow", new int[] {200, 0, 0}, told);
        same(road, slow, "gap", new int[] {random.nextInt(3), 0, 0}, told);
        for (int p = 0; p < pieces; p++, calls += 2) {
            same(road, slow, "drill", new int[] {p, 0, 0}, told);
            same(road, slow, "open", new int[] {p, Icehighway.FULL, 0}, told);
        }
        return calls + 3;
    }

    private static boolean same(Icehighway road, SlowCalls slow, String name, int[] v, StringBuilder told) {
        String due = slow.call(name, v[0], v[1], v[2]);
        String got = Check.outcome(() -> SlowCalls.real(road, name, v[0], v[1], v[2]));
        String call = name + "(" + v[0] + ", " + v[1] + ", " + v[2] + ")";
        told.append(' ').append(call);
        CHECK.same(call, got, due);
        for (int i = 0; i < SlowCalls.NAMES.length; i++) {
            if (SlowCalls.NAMES[i].equals(name)) {
                (due.endsWith("Exception") ? REFUSED : ANSWERED)[i]++;
            }
        }
        return got.equals(due);
    }

    private static int pick(Random random) {
        int sum = 0;
        for (int often : OFTEN) {
            sum += often;
        }
        int left = random.nextInt(sum);
        for (int i = 0; i < OFTEN.length; i++) {
            left -= OFTEN[i];
            if (left < 0) {
                return i;
            }
        }
        return 0;
    }

    private static int most(SlowCalls slow, int most) {
        switch (most) {
            case -1: return slow.road.pieces.size() - 1;
            case -2: return slow.road.cars.size() - 1;
            case -3: return 2;
            default: return most;
        }
    }

    /** Mostly within, often at an end, now and then just outside or far from all. */
    private static int value(Random random, int least, int most) {
        int choice = random.nextInt(100);
        if (choice < 70 && most >= least) {
            return least + random.nextInt(most - least + 1);
        }
        int[] edges = {
            least, most, least, most, least + 1, most - 1, least - 1, most + 1, 0, -1, 1, Integer.MIN_VALUE,
            Integer.MAX_VALUE};
        return edges[random.nextInt(choice < 94 ? 6 : edges.length)];
    }
}
