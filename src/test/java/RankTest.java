/** Promise 21: ranks of a pool. */
final class RankTest {
    private static final int NONE = Phrasehall.NONE;

    public static void main(String[] args) {
        withoutBouts();
        byQuotient();
        byQuotientJustSo();
        byQuotientAgainstNoBouts();
        byBalance();
        byTouchesGiven();
        withoutTheWithdrawn();
        asTheyAreNow();
        wrongCalls();
        Check.done();
    }

    @Says(in = "rank", value = {"Returns the fencer with a rank of a pool.", "`place`: 0 for the first one",
        "Returns the fencer; NONE, if there are not so many."})
    private static void ranks(String what, Phrasehall hall, int... due) {
        for (int place = 0; place < due.length; place++) {
            Check.due("rank " + place + ", " + what, hall.rank(0, place), due[place]);
        }
        Check.due("rank behind the last, " + what, hall.rank(0, due.length), NONE);
        Check.due("rank far behind, " + what, hall.rank(0, 12), NONE);
        Check.due("the farthest rank, " + what, hall.rank(0, Integer.MAX_VALUE), NONE);
    }

    private static Phrasehall pooled(int fencers) {
        Phrasehall hall = Halls.with(fencers);
        hall.pool((1 << fencers) - 1);
        return hall;
    }

    private static void withoutBouts() {
        Phrasehall all = pooled(12);
        ranks("no bouts", all, 0, 1, 2, 3, 4, 5, 6, 7, 8, 9, 10, 11);
        Phrasehall some = Halls.with(12);
        some.pool(1 << 11 | 1 << 5 | 1 << 2);
        ranks("a few", some, 2, 5, 11);
    }

    @Says(in = "Pools, tableaux", value = {"Its ranks: by wins divided by bouts,", "greater ones first;"})
    private static void byQuotient() {
        Phrasehall hall = pooled(3);
        Halls.fence(hall, 0, 2, 1, 1, 0);
        // 1 and 0 have no wins; 0 has the better balance without bouts
        ranks("one bout", hall, 2, 0, 1);
        Halls.fence(hall, 0, 1, 0, 9, 0);
        // 2 has 1 of 1; 1 has 1 of 2 and much the better balance
        ranks("quotient ahead of balance", hall, 2, 1, 0);
        Halls.fence(hall, 0, 0, 1, 9, 0);
        ranks("halves and thirds", hall, 2, 0, 1);
    }

    @Says(in = "Pools, tableaux", value = "just so,")
    private static void byQuotientJustSo() {
        Phrasehall hall = pooled(4);
        win(hall, 0, 2, 5, 17);
        win(hall, 1, 3, 3, 10);
        Check.due("bouts of 2", hall.ofPool(0, 2, 0), 17);
        // 12 of 17 is just more than 7 of 10, and 3 of 10 just more than 5 of 17
        ranks("5 of 17 and 3 of 10", hall, 2, 3, 1, 0);
        Phrasehall like = pooled(4);
        win(like, 0, 2, 2, 6);
        win(like, 1, 3, 1, 3);
        // quotients are alike: 0 has the balance -2 and 1 has -1, 2 has 2 and 3 has 1
        ranks("2 of 6 and 1 of 3", like, 2, 3, 1, 0);
    }

    @Says(in = "Pools, tableaux", value = "0 without bouts,")
    private static void byQuotientAgainstNoBouts() {
        for (int winner = 0; winner < 3; winner++) {
            Phrasehall hall = pooled(3);
            int loser = (winner + 1) % 3;
            hall.begin(winner, loser, Phrasehall.SABRE, 45, 0);
            Halls.give(hall, 1, 5);
            hall.card(1, 3);
            hall.card(1, 3);
            // the winner has 1 touch to 5; without wins the better balance comes ahead of no bouts
            Check.due("first, who won", hall.rank(0, 0), winner);
            Check.due("second, who lost with the better balance", hall.rank(0, 1), loser);
        }
        for (int idle = 0; idle < 3; idle++) {
            Phrasehall halves = pooled(3);
            int one = idle == 0 ? 1 : 0;
            int other = idle == 2 ? 1 : 2;
            Halls.fence(halves, 0, one, other, 1, 0);
            Halls.fence(halves, 0, one, other, 0, 5);
            // one of two each, with the balances -4 and 4; who has no bouts has the balance 0
            ranks("behind a winner with the worse balance, " + idle, halves, other, one, idle);
        }
    }

    /** So many wins of one of so many bouts with another one, each to 1. */
    private static void win(Phrasehall hall, int one, int other, int wins, int bouts) {
        for (int i = 0; i < bouts; i++) {
            Halls.fence(hall, 0, one, other, i < wins ? 1 : 0, i < wins ? 0 : 1);
        }
    }

    @Says(in = "Pools, tableaux", value = "then by touches given less those got;")
    private static void byBalance() {
        Phrasehall hall = pooled(4);
        Halls.fence(hall, 0, 0, 1, 5, 4);
        Halls.fence(hall, 0, 2, 3, 3, 0);
        // 2 has 3 and 0 has 1; 1 has -1 and 3 has -3
        ranks("balance ahead of touches", hall, 2, 0, 1, 3);
    }

    @Says(in = "Pools, tableaux", value = {"then by touches given;", "then lower numbers."})
    private static void byTouchesGiven() {
        Phrasehall hall = pooled(4);
        Halls.fence(hall, 0, 0, 1, 3, 2);
        Halls.fence(hall, 0, 2, 3, 5, 4);
        ranks("touches given", hall, 2, 0, 3, 1);
        Phrasehall lower = pooled(4);
        Halls.fence(lower, 0, 0, 1, 5, 4);
        Halls.fence(lower, 0, 2, 3, 3, 2);
        ranks("more touches given by lower numbers", lower, 0, 2, 1, 3);
        Phrasehall few = pooled(4);
        Halls.fence(few, 0, 0, 1, 1, 0);
        Halls.fence(few, 0, 2, 3, 3, 2);
        ranks("as few touches given as bouts", few, 2, 0, 3, 1);
        Phrasehall fewer = pooled(4);
        Halls.fence(fewer, 0, 0, 1, 1, 0);
        Halls.fence(fewer, 0, 0, 1, 0, 0);
        Halls.fence(fewer, 0, 2, 3, 2, 1);
        Halls.fence(fewer, 0, 2, 3, 0, 0);
        ranks("fewer touches given than bouts", fewer, 2, 0, 3, 1);
        Phrasehall like = pooled(4);
        Halls.fence(like, 0, 2, 3, 5, 4);
        Halls.fence(like, 0, 1, 0, 5, 4);
        ranks("lower numbers", like, 1, 2, 0, 3);
    }

    @Says(in = "Pools, tableaux", value = "Who withdrew has no rank.")
    private static void withoutTheWithdrawn() {
        Phrasehall hall = pooled(4);
        Halls.fence(hall, 0, 3, 0, 1, 0);
        Halls.fence(hall, 0, 2, 3, 1, 0);
        ranks("all", hall, 2, 3, 1, 0);
        hall.withdraw(0, 3);
        ranks("3 withdrew", hall, 0, 1, 2);
        hall.withdraw(0, 0);
        hall.withdraw(0, 1);
        ranks("one is left", hall, 2);
        hall.withdraw(0, 2);
        ranks("nobody is left", hall);
    }

    private static void asTheyAreNow() {
        Phrasehall hall = pooled(2);
        hall.begin(0, 1, Phrasehall.SABRE, 2, 0);
        Halls.give(hall, 1, 1);
        ranks("on the piste", hall, 0, 1);
        Halls.singleTouch(hall, 1);
        ranks("over", hall, 1, 0);
    }

    @Says(in = "rank", value = {"`pool`: the number of a pool",
        "Throws `IndexOutOfBoundsException` if there is no such pool, or place is below 0"})
    private static void wrongCalls() {
        int[][] wrong = {{-1, 0}, {1, 0}, {6, 0}, {0, -1}, {0, -2}, {0, Integer.MIN_VALUE}, {Integer.MAX_VALUE, 0},
            {Integer.MIN_VALUE, 0}, {1, -1}, {1, Integer.MAX_VALUE}};
        for (int[] w : wrong) {
            Check.refused("rank " + w[0] + " " + w[1], Check.INDEX, h -> {
                Halls.take(h, 3);
                h.pool(7);
            }, h -> h.rank(w[0], w[1]));
        }
        Check.refused("rank without a pool", Check.INDEX, h -> Halls.take(h, 2), h -> h.rank(0, 0));
    }
}
