import java.util.Arrays;
import java.util.Random;

/**
 * Made-up runs of at most 512 calls on a hall and on an Oracle, which must answer alike. The seeds are
 * fixed, so that each test run makes the same calls.
 */
final class RunsTest {
    private static final int RUNS = 6000;
    /** In so many of each hundred runs it is looked inside the hall, which takes its time. */
    private static final int LOOKED_INTO = 5;
    private static final int CALLS = 512;
    private static final String[] CALL_NAMES = {"fencer", "begin", "act", "hit", "judge", "card", "clock", "end", "seed",
        "pool", "withdraw", "tableau", "wins", "lamp", "holder", "reason", "ofBout", "ofPool", "ofPoolAnew", "rank",
        "meets"};
    /** How often each call comes, by the kind of a run: phrases, clocks, pools, tableaux, anything. */
    private static final int[][] WEIGHTS = {
        {1, 20, 120, 100, 45, 4, 2, 1, 1, 1, 1, 0, 0, 20, 20, 10, 10, 1, 1, 1, 0},
        {1, 40, 3, 60, 45, 8, 60, 2, 4, 1, 1, 0, 0, 2, 2, 2, 60, 3, 3, 2, 0},
        {1, 70, 3, 40, 40, 30, 10, 40, 1, 3, 6, 2, 2, 1, 1, 1, 10, 60, 60, 60, 4},
        {6, 20, 1, 20, 20, 5, 2, 20, 1, 5, 4, 8, 90, 1, 1, 1, 4, 4, 4, 20, 120},
        {1, 1, 1, 1, 1, 1, 1, 1, 1, 1, 1, 1, 1, 1, 1, 1, 1, 1, 1, 1, 1},
    };
    private static final int[] WILD = {Integer.MIN_VALUE, -32, -2, -1, 3, 4, 7, 12, 24, 32, 45, 46, 80, 240, 241, 1000,
        1001, 1_000_000, 1_000_001, Integer.MAX_VALUE};
    private static final int[] STEPS = {0, 0, 1, 5, 39, 40, 41, 45, 46, 100, 149, 150, 151, 170, 171, 299, 300, 301};
    private static final int[] SPANS = {0, 1, 2, 13, 14, 14, 15, 500, 1000};
    private static final int[] SECONDS = {1, 1, 2, 10, 29, 30, 31, 58, 59, 60, 61, 119, 120, 179, 180, 240};

    private final Random random;
    private final Phrasehall hall = new Phrasehall();
    private final Oracle oracle = new Oracle();
    private final int kind;
    private final int wildness;
    private int fencers = 0;
    private int pools = 0;
    private int time = 0;

    private RunsTest(int seed) {
        random = new Random(seed);
        kind = seed % WEIGHTS.length;
        wildness = kind == 4 ? 5 : 60;
    }

    public static void main(String[] args) {
        int[] answered = new int[CALL_NAMES.length];
        int[] thrown = new int[CALL_NAMES.length];
        for (int seed = 0; seed < RUNS; seed++) {
            new RunsTest(seed).run(seed, answered, thrown);
        }
        for (int call = 0; call < CALL_NAMES.length; call++) {
            Check.due(CALL_NAMES[call] + " answered often enough", answered[call] > 1000 ? 1 : 0, 1);
            boolean throwsAtAll = !CALL_NAMES[call].equals("holder") && !CALL_NAMES[call].equals("reason");
            Check.due(CALL_NAMES[call] + " thrown often enough", thrown[call] > 100 ? 1 : 0, throwsAtAll ? 1 : 0);
        }
        Check.done();
    }

    @Says(in = "Terms", value = "A call that throws an exception changes nothing;")
    private void run(int seed, int[] answered, int[] thrown) {
        int start = random.nextInt(13);
        boolean looksInside = seed % 100 < LOOKED_INTO;
        String held = looksInside ? Inside.of(hall) : "";
        for (int i = 0; i < CALLS; i++) {
            int call = i < start ? 0 : i < start + 2 ? 9 : pick();
            int[] given = arguments(call);
            String got = ask(true, call, given);
            String due = ask(false, call, given);
            if (!got.equals(due)) {
                Check.report("seed " + seed + ", call " + i + ", " + CALL_NAMES[call] + Arrays.toString(given)
                        + " answered " + got + ", due is " + due);
                return;
            }
            boolean failed = got.endsWith("Exception");
            String now = looksInside ? Inside.of(hall) : "";
            if (failed && !now.equals(held)) {
                Check.report("seed " + seed + ", call " + i + ", " + CALL_NAMES[call] + Arrays.toString(given)
                        + " changed what the hall holds, though it was refused");
                return;
            }
            held = now;
            (failed ? thrown : answered)[call]++;
            fencers += call == 0 && !failed ? 1 : 0;
            pools += call == 9 && !failed ? 1 : 0;
        }
    }

    private int pick() {
        int sum = 0;
        for (int weight : WEIGHTS[kind]) {
            sum += weight;
        }
        int at = random.nextInt(sum);
        int call = 0;
        while (at >= WEIGHTS[kind][call]) {
            at -= WEIGHTS[kind][call];
            call++;
        }
        return call;
    }

    private int one(int... of) {
        return of[random.nextInt(of.length)];
    }

    private int below(int bound) {
        return random.nextInt(Math.max(1, bound));
    }

    private int[] arguments(int call) {
        int[] given = usual(call);
        for (int i = 0; i < given.length; i++) {
            if (random.nextInt(wildness) == 0) {
                given[i] = one(WILD);
            }
        }
        return given;
    }

    private int[] usual(int call) {
        switch (call) {
            case 1:
                time = 0;
                int to = kind == 1 ? one(2, 3, 4, 9, 45) : one(1, 2, 3, 5, 15);
                int weapon = kind == 1 ? one(1, 1, 1, 2) : below(3);
                return new int[] {below(fencers), below(fencers), weapon, to, one(-1, 0, below(pools), below(pools))};
            case 2:
                return new int[] {below(2), below(7), nextTime()};
            case 3:
                return new int[] {below(2), nextTime(), one(SPANS), one(0, 0, 0, 1, 2)};
            case 4:
                time = 0;
                return new int[] {};
            case 5:
                return new int[] {below(2), 1 + below(3)};
            case 6:
                return new int[] {one(SECONDS)};
            case 8:
                return new int[] {random.nextInt() >>> 1};
            case 9:
                return new int[] {below(1 << fencers) | below(1 << fencers)};
            case 10:
                return new int[] {below(pools), below(12)};
            case 11:
                return new int[] {below(pools)};
            case 12:
                return new int[] {one(0, 0, 1, 2, 3, 4), one(0, 1, 2, 3, below(8)), below(2)};
            case 13:
                return new int[] {below(2)};
            case 16:
                return new int[] {below(80), below(6)};
            case 17:
            case 18:
                return new int[] {below(pools), below(12), below(4)};
            case 19:
                return new int[] {below(pools), below(13)};
            case 20:
                return new int[] {one(0, 0, 1, 2, 3, 4), one(0, 1, 2, 3, below(8)), below(3)};
            default:
                return new int[] {};
        }
    }

    private int nextTime() {
        time += one(STEPS);
        return random.nextInt(40) == 0 ? Math.max(0, time - 1) : time;
    }

    private String ask(boolean real, int call, int[] a) {
        try {
            return String.valueOf(real ? askHall(call, a) : askOracle(call, a));
        } catch (RuntimeException e) {
            return e.getClass().getSimpleName();
        }
    }

    private int askHall(int call, int[] a) {
        switch (call) {
            case 0: return hall.fencer();
            case 1: return hall.begin(a[0], a[1], a[2], a[3], a[4]);
            case 2: return hall.act(a[0], a[1], a[2]);
            case 3: return hall.hit(a[0], a[1], a[2], a[3]);
            case 4: return hall.judge();
            case 5: return hall.card(a[0], a[1]);
            case 6: return hall.clock(a[0]);
            case 7: return hall.end();
            case 8: hall.seed(a[0]); return 0;
            case 9: return hall.pool(a[0]);
            case 10: return hall.withdraw(a[0], a[1]);
            case 11: return hall.tableau(a[0]);
            case 12: return hall.wins(a[0], a[1], a[2]);
            case 13: return hall.lamp(a[0]);
            case 14: return hall.holder();
            case 15: return hall.reason();
            case 16: return hall.ofBout(a[0], a[1]);
            case 17: return hall.ofPool(a[0], a[1], a[2]);
            case 18: return hall.ofPoolAnew(a[0], a[1], a[2]);
            case 19: return hall.rank(a[0], a[1]);
            default: return hall.meets(a[0], a[1], a[2]);
        }
    }

    private int askOracle(int call, int[] a) {
        switch (call) {
            case 0: return oracle.fencer();
            case 1: return oracle.begin(a[0], a[1], a[2], a[3], a[4]);
            case 2: return oracle.act(a[0], a[1], a[2]);
            case 3: return oracle.hit(a[0], a[1], a[2], a[3]);
            case 4: return oracle.judge();
            case 5: return oracle.card(a[0], a[1]);
            case 6: return oracle.clock(a[0]);
            case 7: return oracle.end();
            case 8: oracle.seed(a[0]); return 0;
            case 9: return oracle.pool(a[0]);
            case 10: return oracle.withdraw(a[0], a[1]);
            case 11: return oracle.tableau(a[0]);
            case 12: return oracle.wins(a[0], a[1], a[2]);
            case 13: return oracle.lamp(a[0]);
            case 14: return oracle.holder();
            case 15: return oracle.reason();
            case 16: return oracle.ofBout(a[0], a[1]);
            case 17:
            case 18: return oracle.ofPool(a[0], a[1], a[2]);
            case 19: return oracle.rank(a[0], a[1]);
            default: return oracle.meets(a[0], a[1], a[2]);
        }
    }
}
