/** Promises 11, 12, 19 and 20: pools, who withdraws, and the table. */
final class PoolTest {
    private static final int NONE = Phrasehall.NONE;

    public static void main(String[] args) {
        poolsAreNumbered();
        tableOfBouts();
        onlyBoutsThatAreOver();
        onlyBoutsOfThePool();
        everyWayToEnd();
        withdrawForgets();
        withdrawTellsOnlyWhatCounted();
        withdrawWhileBusyElsewhere();
        wrongPools();
        wrongWithdrawals();
        wrongQuestions();
        Check.done();
    }

    private static void row(String what, Phrasehall hall, int pool, int fencer, int... due) {
        for (int i = 0; i < 4; i++) {
            Check.due("ofPool " + pool + " " + fencer + " " + i + ", " + what, hall.ofPool(pool, fencer, i), due[i]);
            Check.due("ofPoolAnew " + pool + " " + fencer + " " + i + ", " + what, hall.ofPoolAnew(pool, fencer, i),
                    due[i]);
        }
    }

    private static void poolsAreNumbered() {
        Phrasehall hall = Halls.with(12);
        int[] sets = {3, 4095, 3, 3072, 2049, 7};
        for (int i = 0; i < sets.length; i++) {
            Check.due("pool " + sets[i], hall.pool(sets[i]), i);
        }
        row("new", hall, 3, 11, 0, 0, 0, 0);
        Check.due("not of it", Check.answer(hall, h -> h.ofPool(3, 0, 0)), "IndexOutOfBoundsException");
    }

    private static void tableOfBouts() {
        Phrasehall hall = Halls.with(3);
        hall.pool(7);
        Halls.fence(hall, 0, 0, 1, 3, 1);
        row("first bout", hall, 0, 0, 1, 1, 3, 1);
        row("first bout", hall, 0, 1, 1, 0, 1, 3);
        row("first bout", hall, 0, 2, 0, 0, 0, 0);
        Halls.fence(hall, 0, 2, 0, 2, 0);
        row("second bout", hall, 0, 0, 2, 1, 3, 3);
        row("second bout", hall, 0, 2, 1, 1, 2, 0);
        Halls.fence(hall, 0, 1, 0, 1, 1);
        row("like touches", hall, 0, 0, 3, 2, 4, 4);
        row("like touches", hall, 0, 1, 2, 0, 2, 4);
    }

    private static void onlyBoutsThatAreOver() {
        Phrasehall hall = Halls.with(2);
        hall.pool(3);
        hall.begin(0, 1, Phrasehall.SABRE, 5, 0);
        hall.card(0, 2);
        row("on the piste", hall, 0, 0, 0, 0, 0, 0);
        row("on the piste", hall, 0, 1, 0, 0, 0, 0);
        hall.end();
        row("ended", hall, 0, 0, 1, 0, 0, 1);
        row("ended", hall, 0, 1, 1, 1, 1, 0);
    }

    private static void onlyBoutsOfThePool() {
        Phrasehall hall = Halls.with(3);
        hall.pool(3);
        hall.pool(7);
        Halls.fence(hall, 1, 0, 1, 1, 0);
        Halls.fence(hall, NONE, 0, 1, 2, 0);
        row("none of it", hall, 0, 0, 0, 0, 0, 0);
        row("one of it", hall, 1, 0, 1, 1, 1, 0);
        Check.due("withdraw from the other", hall.withdraw(0, 0), 0);
        row("the other is as it was", hall, 1, 0, 1, 1, 1, 0);
    }

    private static void everyWayToEnd() {
        Phrasehall hall = Halls.with(2);
        hall.pool(3);
        hall.begin(0, 1, Phrasehall.SABRE, 1, 0);
        Halls.singleTouch(hall, 1);
        row("by judging", hall, 0, 1, 1, 1, 1, 0);
        hall.begin(0, 1, Phrasehall.SABRE, 45, 0);
        hall.card(1, 3);
        hall.card(1, 3);
        row("by a black card", hall, 0, 0, 2, 1, 1, 1);
        hall.begin(1, 0, Phrasehall.SABRE, 45, 0);
        hall.clock(180);
        row("by passivity", hall, 0, 0, 3, 2, 2, 2);
        row("by passivity", hall, 0, 1, 3, 1, 2, 2);
    }

    private static void withdrawForgets() {
        Phrasehall hall = Halls.with(4);
        hall.pool(15);
        Halls.fence(hall, 0, 0, 1, 3, 1);
        Halls.fence(hall, 0, 2, 1, 0, 2);
        Halls.fence(hall, 0, 2, 0, 0, 4);
        Halls.fence(hall, 0, 3, 2, 1, 0);
        Check.due("withdraw", hall.withdraw(0, 1), 2);
        row("who withdrew", hall, 0, 1, 0, 0, 0, 0);
        row("0 behind it", hall, 0, 0, 1, 1, 4, 0);
        row("2 behind it", hall, 0, 2, 2, 0, 0, 5);
        row("3 behind it", hall, 0, 3, 1, 1, 1, 0);
        Check.due("winner of a bout that does not count", hall.ofBout(0, 2), 0);
    }

    private static void withdrawTellsOnlyWhatCounted() {
        Phrasehall hall = Halls.with(3);
        hall.pool(7);
        Halls.fence(hall, 0, 0, 1, 3, 1);
        Halls.fence(hall, 0, 0, 2, 3, 1);
        Check.due("withdraw 0", hall.withdraw(0, 0), 2);
        Check.due("withdraw 1, whose bout did not count any more", hall.withdraw(0, 1), 0);
        Halls.fence(hall, NONE, 2, 1, 5, 0);
        row("all gone", hall, 0, 2, 0, 0, 0, 0);
        Check.due("withdraw 2", hall.withdraw(0, 2), 0);
    }

    private static void withdrawWhileBusyElsewhere() {
        Phrasehall hall = Halls.with(3);
        hall.pool(7);
        hall.pool(7);
        Halls.fence(hall, 0, 0, 1, 1, 0);
        hall.begin(0, 1, Phrasehall.SABRE, 5, 1);
        Check.due("withdraw, in a bout of another pool", hall.withdraw(0, 0), 1);
        Check.due("withdraw, not in the bout", hall.withdraw(1, 2), 0);
        hall.end();
        hall.begin(0, 1, Phrasehall.SABRE, 5, NONE);
        Check.due("withdraw, in a bout of no pool", hall.withdraw(1, 0), 1);
    }

    private static void wrongPools() {
        for (int set : new int[] {0, 1, 2, 8, 9, 11, 15, -1, Integer.MIN_VALUE, Integer.MIN_VALUE + 3, 4096 + 3}) {
            Check.refused("pool " + set, Check.ARGUMENT, h -> Halls.take(h, 3), h -> h.pool(set));
        }
        Check.refused("the 13th fencer in a set", Check.ARGUMENT, h -> Halls.take(h, 12), h -> h.pool(4096 + 3));
        Check.refused("the 7th pool", Check.STATE, PoolTest::sixPools, h -> h.pool(3));
        Check.refused("a wrong set ahead of too many", Check.ARGUMENT, PoolTest::sixPools, h -> h.pool(1));
    }

    private static void sixPools(Phrasehall hall) {
        Halls.take(hall, 3);
        for (int i = 0; i < 6; i++) {
            Check.due("pool", hall.pool(7), i);
        }
    }

    private static void onePool(Phrasehall hall) {
        Halls.take(hall, 4);
        hall.pool(7);
        Halls.fence(hall, 0, 0, 1, 2, 1);
        Halls.fence(hall, 0, 1, 2, 2, 1);
    }

    private static void wrongWithdrawals() {
        int[][] wrong = {{-1, 0}, {1, 0}, {6, 0}, {0, 3}, {0, -1}, {0, 12}, {0, 32}, {0, 33}, {Integer.MIN_VALUE, 0},
            {0, Integer.MAX_VALUE}};
        for (int[] w : wrong) {
            Check.refused("withdraw " + w[0] + " " + w[1], Check.INDEX, PoolTest::onePool,
                    h -> h.withdraw(w[0], w[1]));
        }
        Check.refused("withdraw again", Check.STATE, h -> {
            onePool(h);
            h.withdraw(0, 0);
        }, h -> h.withdraw(0, 0));
        for (int busy = 0; busy < 2; busy++) {
            int who = busy;
            Check.refused("withdraw " + busy + " on the piste", Check.STATE, h -> {
                onePool(h);
                h.begin(0, 1, Phrasehall.SABRE, 5, 0);
            }, h -> h.withdraw(0, who));
        }
    }

    private static void wrongQuestions() {
        int[][] wrong = {{-1, 0, 0}, {1, 0, 0}, {0, 3, 0}, {0, -1, 0}, {0, 12, 0}, {0, 32, 0}, {1, 0, 4}, {0, 3, -1},
            {Integer.MAX_VALUE, 0, 0}};
        for (int[] w : wrong) {
            String what = w[0] + " " + w[1] + " " + w[2];
            Check.refused("ofPool " + what, Check.INDEX, PoolTest::onePool, h -> h.ofPool(w[0], w[1], w[2]));
            Check.refused("ofPoolAnew " + what, Check.INDEX, PoolTest::onePool, h -> h.ofPoolAnew(w[0], w[1], w[2]));
        }
        for (int what : new int[] {-1, 4, Integer.MIN_VALUE, Integer.MAX_VALUE}) {
            Check.refused("ofPool 0 0 " + what, Check.ARGUMENT, PoolTest::onePool, h -> h.ofPool(0, 0, what));
            Check.refused("ofPoolAnew 0 0 " + what, Check.ARGUMENT, PoolTest::onePool, h -> h.ofPoolAnew(0, 0, what));
        }
    }
}
