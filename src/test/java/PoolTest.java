/** Promises 11, 12, 19 and 20: pools, who withdraws, and the table. */
final class PoolTest {
    private static final int NONE = Phrasehall.NONE;

    public static void main(String[] args) {
        poolsAreNumbered();
        setsOfTwoAndMore();
        sixAtMost();
        tableOfBouts();
        onlyBoutsThatAreOver();
        onlyBoutsOfThePool();
        everyWayToEnd();
        withdrawForgets();
        withdrawTellsOnlyWhatCounted();
        withdrawWhileBusyElsewhere();
        wrongPools();
        withdrawOfWhoIsNotThere();
        withdrawAgain();
        withdrawOnThePiste();
        questionsOfWhoIsNotThere();
        wrongQuestions();
        Check.done();
    }

    @Says(in = "ofPool", value = "Returns as told.")
    @Says(in = "ofPoolAnew", value = {"Tells the same, counted anew from all bouts.", "Returns as told."})
    private static void row(String what, Phrasehall hall, int pool, int fencer, int... due) {
        for (int i = 0; i < 4; i++) {
            Check.due("ofPool " + pool + " " + fencer + " " + i + ", " + what, hall.ofPool(pool, fencer, i), due[i]);
            Check.due("ofPoolAnew " + pool + " " + fencer + " " + i + ", " + what, hall.ofPoolAnew(pool, fencer, i),
                    due[i]);
        }
    }

    @Says(in = "pool", value = {"Makes a pool.", "Returns its number, from 0 on."})
    private static void poolsAreNumbered() {
        Phrasehall hall = Halls.with(12);
        int[] sets = {3, 4095, 3, 3072, 2049, 7};
        for (int i = 0; i < sets.length; i++) {
            Check.due("pool " + sets[i], hall.pool(sets[i]), i);
        }
        row("new", hall, 3, 11, 0, 0, 0, 0);
        Check.due("not of it", Check.answer(hall, h -> h.ofPool(3, 0, 0)), "IndexOutOfBoundsException");
    }

    @Says(in = "pool", value = "`fencers`: a set of them, that of 0 lowest; at least 2")
    @Says(in = "Pools, tableaux", value = "A pool is a set of fencers.")
    private static void setsOfTwoAndMore() {
        for (int one = 0; one < 12; one++) {
            for (int other = one + 1; other < 12; other++) {
                Phrasehall hall = Halls.with(12);
                Check.due("pool of two", hall.pool(1 << one | 1 << other), 0);
                for (int fencer = 0; fencer < 12; fencer++) {
                    int who = fencer;
                    boolean has = fencer == one || fencer == other;
                    Check.due("the pool has " + fencer, Check.answer(hall, h -> h.ofPool(0, who, 0)),
                            has ? "0" : "IndexOutOfBoundsException");
                }
                Check.due("first of two", hall.rank(0, 0), one);
                Check.due("second of two", hall.rank(0, 1), other);
                Check.due("no third of two", hall.rank(0, 2), NONE);
            }
        }
    }

    @Says(in = "pool", value = "Throws `IllegalStateException` if there are 6")
    private static void sixAtMost() {
        Phrasehall hall = Halls.with(3);
        for (int i = 0; i < 6; i++) {
            int number = i;
            Check.due("not there yet", Check.answer(hall, h -> h.rank(number, 0)), "IndexOutOfBoundsException");
            Check.due("pool", hall.pool(7), i);
            Check.due("there", hall.rank(i, 2), 2);
        }
        Check.due("the 7th pool", Check.answer(hall, h -> h.pool(7)), "IllegalStateException");
        Check.due("it is not there", Check.answer(hall, h -> h.rank(6, 0)), "IndexOutOfBoundsException");
        Check.refused("the 7th pool", Check.STATE, PoolTest::sixPools, h -> h.pool(3));
        for (int set : new int[] {1, 0, 8, 15, -1}) {
            Check.refused("a wrong set ahead of too many", Check.ARGUMENT, PoolTest::sixPools, h -> h.pool(set));
        }
    }

    @Says(in = "Pools, tableaux", value = "of each fencer bouts, wins, touches given and got.")
    @Says(in = "ofPool", value = {"Tells of a fencer in a pool, as it is kept.",
        "`what`: 0 bouts, 1 wins, 2 touches given, 3 touches got;"})
    @Says(in = "ofPoolAnew", value = "`what`: 0 to 3")
    private static void tableOfBouts() {
        Phrasehall hall = Halls.with(3);
        hall.pool(7);
        Halls.fence(hall, 0, 0, 1, 3, 1);
        row("first bout", hall, 0, 0, 1, 1, 3, 1);
        row("first bout", hall, 0, 1, 1, 0, 1, 3);
        row("first bout", hall, 0, 2, 0, 0, 0, 0);
        Halls.fence(hall, 0, 2, 0, 2, 0);
        row("second bout", hall, 0, 0, 2, 1, 3, 3);
        row("second bout", hall, 0, 2, 1, 1, 2, 0);
        Halls.fence(hall, 0, 1, 0, 1, 1);
        row("like touches", hall, 0, 0, 3, 2, 4, 4);
        row("like touches", hall, 0, 1, 2, 0, 2, 4);
    }

    @Says(in = "Pools, tableaux", value = "Its table is made of its bouts that are over,")
    private static void onlyBoutsThatAreOver() {
        Phrasehall hall = Halls.with(2);
        hall.pool(3);
        hall.begin(0, 1, Phrasehall.SABRE, 5, 0);
        hall.card(0, 2);
        row("on the piste", hall, 0, 0, 0, 0, 0, 0);
        row("on the piste", hall, 0, 1, 0, 0, 0, 0);
        hall.end();
        row("ended", hall, 0, 0, 1, 0, 0, 1);
        row("ended", hall, 0, 1, 1, 1, 1, 0);
        hall.begin(1, 0, Phrasehall.SABRE, 5, 0);
        Halls.singleTouch(hall, 0);
        row("the next on the piste", hall, 0, 0, 1, 0, 0, 1);
        Halls.give(hall, 0, 4);
        row("the next over", hall, 0, 0, 2, 0, 0, 6);
    }

    private static void onlyBoutsOfThePool() {
        Phrasehall hall = Halls.with(3);
        hall.pool(3);
        hall.pool(7);
        Halls.fence(hall, 1, 0, 1, 1, 0);
        Halls.fence(hall, NONE, 0, 1, 2, 0);
        row("none of it", hall, 0, 0, 0, 0, 0, 0);
        row("one of it", hall, 1, 0, 1, 1, 1, 0);
        Check.due("withdraw from the other", hall.withdraw(0, 0), 0);
        row("the other is as it was", hall, 1, 0, 1, 1, 1, 0);
    }

    private static void everyWayToEnd() {
        Phrasehall hall = Halls.with(2);
        hall.pool(3);
        hall.begin(0, 1, Phrasehall.SABRE, 1, 0);
        Halls.singleTouch(hall, 1);
        row("by judging", hall, 0, 1, 1, 1, 1, 0);
        hall.begin(0, 1, Phrasehall.SABRE, 45, 0);
        hall.card(1, 3);
        hall.card(1, 3);
        row("by a black card", hall, 0, 0, 2, 1, 1, 1);
        hall.begin(1, 0, Phrasehall.SABRE, 45, 0);
        hall.clock(180);
        row("by passivity", hall, 0, 0, 3, 2, 2, 2);
        row("by passivity", hall, 0, 1, 3, 1, 2, 2);
    }

    @Says(in = "withdraw", value = {"Lets a fencer withdraw from a pool.", "Returns how many bouts do not count any more."})
    @Says(in = "Pools, tableaux", value = "of fencers that did not withdraw from it:")
    @Says(in = "ofPool", value = "all are 0 for one who withdrew")
    private static void withdrawForgets() {
        Phrasehall hall = Halls.with(4);
        hall.pool(15);
        Halls.fence(hall, 0, 0, 1, 3, 1);
        Halls.fence(hall, 0, 2, 1, 0, 2);
        Halls.fence(hall, 0, 2, 0, 0, 4);
        Halls.fence(hall, 0, 3, 2, 1, 0);
        Check.due("withdraw", hall.withdraw(0, 1), 2);
        row("who withdrew", hall, 0, 1, 0, 0, 0, 0);
        row("0 behind it", hall, 0, 0, 1, 1, 4, 0);
        row("2 behind it", hall, 0, 2, 2, 0, 0, 5);
        row("3 behind it", hall, 0, 3, 1, 1, 1, 0);
        Check.due("winner of a bout that does not count", hall.ofBout(0, 2), 0);
    }

    private static void withdrawTellsOnlyWhatCounted() {
        Phrasehall hall = Halls.with(3);
        hall.pool(7);
        Halls.fence(hall, 0, 0, 1, 3, 1);
        Halls.fence(hall, 0, 0, 2, 3, 1);
        Check.due("withdraw 0", hall.withdraw(0, 0), 2);
        Check.due("withdraw 1, whose bout did not count any more", hall.withdraw(0, 1), 0);
        Halls.fence(hall, NONE, 2, 1, 5, 0);
        row("all gone", hall, 0, 2, 0, 0, 0, 0);
        Check.due("withdraw 2", hall.withdraw(0, 2), 0);
    }

    private static void withdrawWhileBusyElsewhere() {
        Phrasehall ended = Halls.with(2);
        ended.pool(3);
        ended.begin(0, 1, Phrasehall.SABRE, 5, 0);
        ended.end();
        Check.due("withdraw as soon as the bout is over", ended.withdraw(0, 0), 1);
        Phrasehall hall = Halls.with(3);
        hall.pool(7);
        hall.pool(7);
        Halls.fence(hall, 0, 0, 1, 1, 0);
        hall.begin(0, 1, Phrasehall.SABRE, 5, 1);
        Check.due("withdraw, in a bout of another pool", hall.withdraw(0, 0), 1);
        Check.due("withdraw, not in the bout", hall.withdraw(1, 2), 0);
        hall.end();
        hall.begin(0, 1, Phrasehall.SABRE, 5, NONE);
        Check.due("withdraw, in a bout of no pool", hall.withdraw(1, 0), 1);
    }

    @Says(in = "pool", value = "Throws `IllegalArgumentException` if fencers has one that there is not, or fewer than 2")
    private static void wrongPools() {
        for (int set : new int[] {0, 1, 2, 4, 8, 9, 11, 15, -1, Integer.MIN_VALUE, Integer.MIN_VALUE + 3, 4096 + 3,
            Integer.MAX_VALUE, 1 << 30 | 3}) {
            Check.refused("pool " + set, Check.ARGUMENT, h -> Halls.take(h, 3), h -> h.pool(set));
        }
        for (int set : new int[] {4096 + 3, 4095 + 4096, 1 << 12, 1 << 11, 1 << 31 | 3, -1}) {
            Check.refused("pool of twelve, " + set, Check.ARGUMENT, h -> Halls.take(h, 12), h -> h.pool(set));
        }
        for (int set : new int[] {0, 1, 3, -1, Integer.MIN_VALUE}) {
            Check.refused("pool of nobody, " + set, Check.ARGUMENT, h -> { }, h -> h.pool(set));
        }
        for (int fencers = 2; fencers <= 12; fencers++) {
            int all = fencers;
            Check.due("pool of all " + fencers, Halls.with(fencers).pool((1 << fencers) - 1), 0);
            Check.refused("pool of one more than " + fencers, Check.ARGUMENT, h -> Halls.take(h, all),
                    h -> h.pool((2 << all) - 1));
        }
    }

    private static void sixPools(Phrasehall hall) {
        Halls.take(hall, 3);
        for (int i = 0; i < 6; i++) {
            Check.due("pool", hall.pool(7), i);
        }
    }

    private static void onePool(Phrasehall hall) {
        Halls.take(hall, 4);
        hall.pool(7);
        Halls.fence(hall, 0, 0, 1, 2, 1);
        Halls.fence(hall, 0, 1, 2, 2, 1);
    }

    @Says(in = "withdraw", value = {"`pool`: the number of a pool", "`fencer`: one of it",
        "Throws `IndexOutOfBoundsException` if there is no such pool, or it does not have that fencer"})
    private static void withdrawOfWhoIsNotThere() {
        int[][] wrong = {{-1, 0}, {1, 0}, {6, 0}, {0, 3}, {0, 4}, {0, -1}, {0, 12}, {0, 32}, {0, 33},
            {Integer.MIN_VALUE, 0}, {Integer.MAX_VALUE, 0}, {0, Integer.MAX_VALUE}, {0, Integer.MIN_VALUE}};
        for (int[] w : wrong) {
            Check.refused("withdraw " + w[0] + " " + w[1], Check.INDEX, PoolTest::onePool,
                    h -> h.withdraw(w[0], w[1]));
        }
        Check.refused("withdraw without a pool", Check.INDEX, h -> Halls.take(h, 2), h -> h.withdraw(0, 0));
        Phrasehall hall = new Phrasehall();
        onePool(hall);
        Check.due("withdraw of the first one", hall.withdraw(0, 0), 1);
        Check.due("withdraw of the last one", hall.withdraw(0, 2), 1);
    }

    @Says(in = "withdraw", value = "Throws `IllegalStateException` if they withdrew,")
    private static void withdrawAgain() {
        for (int gone = 0; gone < 3; gone++) {
            int who = gone;
            Check.refused("withdraw again " + gone, Check.STATE, h -> {
                onePool(h);
                h.withdraw(0, who);
            }, h -> h.withdraw(0, who));
        }
        Phrasehall hall = new Phrasehall();
        onePool(hall);
        hall.pool(7);
        hall.withdraw(0, 1);
        Check.due("withdraw from another pool", hall.withdraw(1, 1), 0);
        Check.due("withdraw of another one", hall.withdraw(0, 0), 0);
    }

    @Says(in = "withdraw", value = "or are in a bout of it on the piste")
    private static void withdrawOnThePiste() {
        for (int busy = 0; busy < 2; busy++) {
            int who = busy;
            Check.refused("withdraw " + busy + " on the piste", Check.STATE, h -> {
                onePool(h);
                h.begin(0, 1, Phrasehall.SABRE, 5, 0);
                h.act(0, 0, 5);
            }, h -> h.withdraw(0, who));
        }
        Phrasehall hall = new Phrasehall();
        onePool(hall);
        hall.begin(0, 1, Phrasehall.SABRE, 5, 0);
        Check.due("withdraw of who is not on the piste", hall.withdraw(0, 2), 1);
        hall.end();
        Check.due("withdraw of who was on the piste", hall.withdraw(0, 1), 2);
    }

    @Says(in = "ofPool", value = {"`pool`: the number of a pool", "`fencer`: one of it",
        "Throws `IndexOutOfBoundsException` if there is no such pool, or it does not have that fencer"})
    @Says(in = "ofPoolAnew", value = {"`pool`: the number of a pool", "`fencer`: one of it",
        "Throws `IndexOutOfBoundsException` if there is no such pool, or it does not have that fencer"})
    private static void questionsOfWhoIsNotThere() {
        int[][] wrong = {{-1, 0, 0}, {1, 0, 0}, {0, 3, 0}, {0, 4, 0}, {0, -1, 0}, {0, 12, 0}, {0, 32, 0}, {1, 0, 4},
            {0, 3, -1}, {6, 0, 0}, {Integer.MIN_VALUE, 0, 0}, {Integer.MAX_VALUE, 0, 0}, {0, Integer.MIN_VALUE, 0},
            {0, Integer.MAX_VALUE, 0}};
        for (int[] w : wrong) {
            String what = w[0] + " " + w[1] + " " + w[2];
            Check.refused("ofPool " + what, Check.INDEX, PoolTest::onePool, h -> h.ofPool(w[0], w[1], w[2]));
            Check.refused("ofPoolAnew " + what, Check.INDEX, PoolTest::onePool, h -> h.ofPoolAnew(w[0], w[1], w[2]));
        }
        Phrasehall hall = new Phrasehall();
        onePool(hall);
        row("the first one", hall, 0, 0, 1, 1, 2, 1);
        row("the last one", hall, 0, 2, 1, 0, 1, 2);
    }

    @Says(in = "ofPool", value = "Throws `IllegalArgumentException` if what is out of range")
    @Says(in = "ofPoolAnew", value = "Throws `IllegalArgumentException` if what is out of range")
    private static void wrongQuestions() {
        for (int what : new int[] {-1, 4, Integer.MIN_VALUE, Integer.MAX_VALUE}) {
            Check.refused("ofPool 0 0 " + what, Check.ARGUMENT, PoolTest::onePool, h -> h.ofPool(0, 0, what));
            Check.refused("ofPoolAnew 0 0 " + what, Check.ARGUMENT, PoolTest::onePool, h -> h.ofPoolAnew(0, 0, what));
            Check.refused("ofPool of who withdrew " + what, Check.ARGUMENT, h -> {
                onePool(h);
                h.withdraw(0, 0);
            }, h -> h.ofPool(0, 0, what) + h.ofPoolAnew(0, 0, what));
        }
    }
}
