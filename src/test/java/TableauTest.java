/** Promises 13, 14 and 22: tableaux, who meets and who wins. */
final class TableauTest {
    private static final int NONE = Phrasehall.NONE;

    public static void main(String[] args) {
        sizes();
        orderOfRanks();
        orderOfTwelve();
        byesOf11();
        byesOfEverySize();
        fencedOut();
        byRanksAsTheyAreThen();
        inPlaceOfTheOneBefore();
        fromTwoRanksOn();
        wrongTableaux();
        wrongMatches();
        withoutATableau();
        wrongSides();
        wrongWins();
        Check.done();
    }

    private static Phrasehall ready(int fencers) {
        Phrasehall hall = Halls.with(fencers);
        hall.pool((1 << fencers) - 1);
        return hall;
    }

    @Says(in = "tableau", value = {"Makes a tableau of a pool,", "Returns how many places it has."})
    @Says(in = "Pools, tableaux", value = {"of 2, 4, 8 or 16 places, the least that are enough;",
        "the round 0 has half as many matches:"})
    private static void sizes() {
        int[] due = {0, 0, 2, 4, 4, 8, 8, 8, 8, 16, 16, 16, 16};
        for (int fencers = 2; fencers <= 12; fencers++) {
            Phrasehall hall = ready(fencers);
            Check.due("tableau of " + fencers, hall.tableau(0), due[fencers]);
            int rounds = 0;
            for (int matches = due[fencers] / 2; matches > 0; matches /= 2) {
                int round = rounds;
                int last = matches - 1;
                Check.due("the last match, round " + round,
                        Check.answer(hall, h -> h.meets(round, last, 2)).equals("IndexOutOfBoundsException") ? 1 : 0, 0);
                Check.due("no more matches, round " + round, Check.answer(hall, h -> h.meets(round, last + 1, 0)),
                        "IndexOutOfBoundsException");
                rounds++;
            }
            int behind = rounds;
            Check.due("no more rounds", Check.answer(hall, h -> h.meets(behind, 0, 0)), "IndexOutOfBoundsException");
        }
    }

    private static void meeting(Phrasehall hall, int round, int match, int... due) {
        for (int side = 0; side < due.length; side++) {
            Check.due("meets " + round + " " + match + " " + side, hall.meets(round, match, side), due[side]);
        }
    }

    @Says(in = "Pools, tableaux", value = "the match k is of the fencers of the ranks that stand at the places 2 k and 2 k"
            + " and 1 of an order of ranks: that of 2 places is 0, 1, and that of twice as many, 2 m, is made from that of m"
            + " by putting 2 m less 1 and less p right behind each p.")
    private static void orderOfRanks() {
        Phrasehall two = ready(2);
        two.tableau(0);
        meeting(two, 0, 0, 0, 1, NONE);
        Phrasehall four = ready(4);
        four.tableau(0);
        meeting(four, 0, 0, 0, 3, NONE);
        meeting(four, 0, 1, 1, 2, NONE);
        meeting(four, 1, 0, NONE, NONE, NONE);
        Phrasehall eight = ready(8);
        eight.tableau(0);
        int[][] due = {{0, 7}, {3, 4}, {1, 6}, {2, 5}};
        for (int match = 0; match < 4; match++) {
            meeting(eight, 0, match, due[match][0], due[match][1], NONE);
        }
    }

    /** Of 16 places: 0 15 7 8 3 12 4 11 1 14 6 9 2 13 5 10; the ranks 12 to 15 are nobody's. */
    private static void orderOfTwelve() {
        Phrasehall hall = Halls.with(12);
        hall.pool(4095);
        Halls.fence(hall, 0, 11, 0, 1, 0);
        // 11 is ahead of all, and 0 behind all
        Check.due("tableau of twelve", hall.tableau(0), 16);
        int[][] due = {{11, NONE, 11}, {7, 8, NONE}, {3, NONE, 3}, {4, 0, NONE}, {1, NONE, 1}, {6, 9, NONE}, {2, NONE, 2},
            {5, 10, NONE}};
        for (int match = 0; match < 8; match++) {
            meeting(hall, 0, match, due[match]);
        }
    }

    /** The first ranks, as many as places are left over, have won at once, and nobody else. */
    @Says(in = "Pools, tableaux", value = "Who has no other one has won at once.")
    private static void byesOfEverySize() {
        for (int fencers = 2; fencers <= 12; fencers++) {
            Phrasehall hall = ready(fencers);
            int places = hall.tableau(0);
            int byes = 0;
            for (int match = 0; match < places / 2; match++) {
                int one = hall.meets(0, match, 0);
                boolean alone = hall.meets(0, match, 1) == NONE;
                byes += alone ? 1 : 0;
                Check.due("alone of " + fencers + ", " + one, alone ? 1 : 0, one < places - fencers ? 1 : 0);
                Check.due("won at once of " + fencers + ", " + one, hall.meets(0, match, 2), alone ? one : NONE);
                if (places > 2) {
                    Check.due("in the next round at once", hall.meets(1, match / 2, match % 2), alone ? one : NONE);
                }
            }
            Check.due("byes of " + fencers, byes, places - fencers);
        }
        Phrasehall waiting = ready(3);
        waiting.tableau(0);
        meeting(waiting, 1, 0, 0, NONE, NONE);
        Check.due("alone in the round 1, not won yet", Check.answer(waiting, h -> h.wins(1, 0, 0)),
                "IllegalStateException");
    }

    private static void byesOf11() {
        Phrasehall hall = ready(11);
        hall.tableau(0);
        int[][] due = {{0, NONE, 0}, {7, 8, NONE}, {3, NONE, 3}, {4, NONE, 4}, {1, NONE, 1}, {6, 9, NONE}, {2, NONE, 2},
            {5, 10, NONE}};
        for (int match = 0; match < 8; match++) {
            meeting(hall, 0, match, due[match]);
        }
        meeting(hall, 1, 0, 0, NONE, NONE);
        meeting(hall, 1, 1, 3, 4, NONE);
        meeting(hall, 1, 2, 1, NONE, NONE);
        meeting(hall, 1, 3, 2, NONE, NONE);
        meeting(hall, 2, 0, NONE, NONE, NONE);
        Check.due("wins where byes meet", hall.wins(1, 1, 0), 3);
        meeting(hall, 2, 0, NONE, 3, NONE);
    }

    @Says(in = "Pools, tableaux", value = "The winners of the matches 2 k and 2 k and 1 are in the match k of the next"
            + " round.")
    @Says(in = "wins", value = {"Tells who wins a match of the tableau.", "Returns the fencer who wins."})
    @Says(in = "meets", value = {"Returns a fencer of a match of the tableau.",
        "Returns the fencer; NONE without, or not yet."})
    private static void fencedOut() {
        Phrasehall hall = ready(12);
        Check.due("tableau", hall.tableau(0), 16);
        int[] winners = new int[8];
        for (int round = 0, matches = 8; matches > 0; round++, matches /= 2) {
            for (int match = 0; match < matches; match++) {
                int side = (round + match) % 2;
                int bye = hall.meets(round, match, 2);
                winners[match] = bye != NONE ? bye : hall.meets(round, match, side);
                if (bye == NONE) {
                    Check.due("wins " + round + " " + match, hall.wins(round, match, side), winners[match]);
                }
                Check.due("who won " + round + " " + match, hall.meets(round, match, 2), winners[match]);
            }
            for (int match = 0; match + 1 < matches; match += 2) {
                meeting(hall, round + 1, match / 2, winners[match], winners[match + 1], NONE);
            }
        }
        Check.due("who won it all", hall.meets(3, 0, 2), winners[0]);
        Check.due("the final is won", Check.answer(hall, h -> h.wins(3, 0, 1)), "IllegalStateException");
    }

    @Says(in = "Pools, tableaux", value = "A tableau is made of the ranks of a pool as they are then:")
    private static void byRanksAsTheyAreThen() {
        Phrasehall hall = Halls.with(6);
        hall.pool(1 << 5 | 1 << 3 | 1 << 1 | 1);
        Halls.fence(hall, 0, 5, 3, 2, 0);
        Halls.fence(hall, 0, 3, 1, 1, 0);
        hall.withdraw(0, 0);
        // 5 has 1 of 1, 3 has 1 of 2, 1 has 0 of 1
        Check.due("tableau of three", hall.tableau(0), 4);
        meeting(hall, 0, 0, 5, NONE, 5);
        meeting(hall, 0, 1, 3, 1, NONE);
        meeting(hall, 1, 0, 5, NONE, NONE);
        hall.withdraw(0, 5);
        Halls.fence(hall, 0, 1, 3, 9, 0);
        meeting(hall, 0, 0, 5, NONE, 5);
        meeting(hall, 0, 1, 3, 1, NONE);
        Check.due("wins", hall.wins(0, 1, 1), 1);
        Check.due("wins, who withdrew from the pool", hall.wins(1, 0, 0), 5);
        meeting(hall, 1, 0, 5, 1, 5);
    }

    @Says(in = "tableau", value = "in place of the one before.")
    private static void inPlaceOfTheOneBefore() {
        Phrasehall hall = Halls.with(12);
        hall.pool(4095);
        hall.pool(3);
        hall.pool(28);
        hall.tableau(0);
        hall.wins(0, 1, 0);
        Check.due("a smaller one", hall.tableau(1), 2);
        meeting(hall, 0, 0, 0, 1, NONE);
        Check.due("matches of the one before", Check.answer(hall, h -> h.meets(0, 1, 0)), "IndexOutOfBoundsException");
        hall.wins(0, 0, 1);
        Check.due("a larger one", hall.tableau(2), 4);
        meeting(hall, 0, 0, 2, NONE, 2);
        meeting(hall, 0, 1, 3, 4, NONE);
        meeting(hall, 1, 0, 2, NONE, NONE);
        hall.wins(0, 1, 1);
        hall.wins(1, 0, 1);
        Check.due("the same anew", hall.tableau(2), 4);
        meeting(hall, 0, 1, 3, 4, NONE);
        meeting(hall, 1, 0, 2, NONE, NONE);
    }

    private static void drawnUp(Phrasehall hall) {
        Halls.take(hall, 5);
        hall.pool(31);
        hall.pool(3);
        hall.tableau(0);
    }

    @Says(in = "tableau", value = {"`pool`: the number of a pool",
        "Throws `IndexOutOfBoundsException` if there is no such pool"})
    private static void wrongTableaux() {
        for (int pool : new int[] {-1, 2, 6, Integer.MIN_VALUE, Integer.MAX_VALUE}) {
            Check.refused("tableau " + pool, Check.INDEX, TableauTest::drawnUp, h -> h.tableau(pool));
        }
        Check.refused("tableau without a pool", Check.INDEX, h -> Halls.take(h, 2), h -> h.tableau(0));
        Phrasehall hall = new Phrasehall();
        drawnUp(hall);
        Check.due("tableau of the last pool", hall.tableau(1), 2);
    }

    @Says(in = "tableau", value = "Throws `IllegalStateException` if fewer than 2 have a rank")
    private static void fromTwoRanksOn() {
        Phrasehall hall = Halls.with(3);
        hall.pool(7);
        hall.withdraw(0, 1);
        Check.due("tableau of two that are left", hall.tableau(0), 2);
        meeting(hall, 0, 0, 0, 2, NONE);
        hall.withdraw(0, 0);
        Check.due("tableau of one that is left", Check.answer(hall, h -> h.tableau(0)), "IllegalStateException");
        meeting(hall, 0, 0, 0, 2, NONE);
        Check.refused("tableau of one", Check.STATE, h -> {
            drawnUp(h);
            h.withdraw(1, 0);
        }, h -> h.tableau(1));
        Check.refused("tableau of nobody", Check.STATE, h -> {
            drawnUp(h);
            h.withdraw(1, 0);
            h.withdraw(1, 1);
        }, h -> h.tableau(1));
    }

    @Says(in = "wins", value = {"`round`: from 0 on", "`match`: from 0 on",
        "Throws `IndexOutOfBoundsException` if there is no such match"})
    @Says(in = "meets", value = {"`round`: from 0 on", "`match`: from 0 on",
        "Throws `IndexOutOfBoundsException` if there is no such match"})
    private static void wrongMatches() {
        int[][] wrong = {{-1, 0}, {0, -1}, {0, 4}, {1, 2}, {2, 1}, {3, 0}, {4, 0}, {31, 0}, {32, 0}, {33, 1},
            {Integer.MAX_VALUE, 0}, {0, Integer.MAX_VALUE}, {Integer.MIN_VALUE, 0}};
        for (int[] w : wrong) {
            String what = w[0] + " " + w[1];
            Check.refused("wins " + what, Check.INDEX, TableauTest::drawnUp, h -> h.wins(w[0], w[1], 0));
            Check.refused("wins, side too, " + what, Check.INDEX, TableauTest::drawnUp, h -> h.wins(w[0], w[1], 9));
            Check.refused("meets " + what, Check.INDEX, TableauTest::drawnUp, h -> h.meets(w[0], w[1], 0));
            Check.refused("meets, side too, " + what, Check.INDEX, TableauTest::drawnUp, h -> h.meets(w[0], w[1], 9));
        }
        Phrasehall hall = new Phrasehall();
        drawnUp(hall);
        meeting(hall, 0, 3, 2, NONE, 2);
        meeting(hall, 1, 1, 1, 2, NONE);
        meeting(hall, 2, 0, NONE, NONE, NONE);
        Check.due("wins of the last match of the round 1", hall.wins(1, 1, 1), 2);
    }

    private static void withoutATableau() {
        Check.refused("wins without a tableau", Check.INDEX, h -> Halls.take(h, 2), h -> h.wins(0, 0, 0));
        Check.refused("meets without a tableau", Check.INDEX, h -> Halls.take(h, 2), h -> h.meets(0, 0, 0));
    }

    @Says(in = "wins", value = {"`side`: 0 for the first one, 1 for the other one",
        "Throws `IllegalArgumentException` if side is out of range"})
    @Says(in = "meets", value = {"`side`: 0 for the first one, 1 for the other one, 2 for the one who won",
        "Throws `IllegalArgumentException` if side is out of range"})
    private static void wrongSides() {
        for (int side = 0; side < 2; side++) {
            Phrasehall hall = new Phrasehall();
            drawnUp(hall);
            meeting(hall, 0, 1, 3, 4, NONE);
            Check.due("wins 0 1 " + side, hall.wins(0, 1, side), 3 + side);
            meeting(hall, 0, 1, 3, 4, 3 + side);
        }
        for (int side : new int[] {-1, 3, Integer.MIN_VALUE, Integer.MAX_VALUE}) {
            Check.refused("meets 0 0 " + side, Check.ARGUMENT, TableauTest::drawnUp, h -> h.meets(0, 0, side));
        }
        for (int side : new int[] {-1, 2, Integer.MIN_VALUE, Integer.MAX_VALUE}) {
            Check.refused("wins 0 1 " + side, Check.ARGUMENT, TableauTest::drawnUp, h -> h.wins(0, 1, side));
            Check.refused("wins of one without both " + side, Check.ARGUMENT, TableauTest::drawnUp,
                    h -> h.wins(1, 0, side));
            Check.refused("no match ahead of the side " + side, Check.INDEX, TableauTest::drawnUp,
                    h -> h.wins(0, 4, side));
            Check.refused("wins of a won one " + side, Check.ARGUMENT, TableauTest::drawnUp, h -> h.wins(0, 0, side));
        }
    }

    @Says(in = "wins", value = "Throws `IllegalStateException` if it does not have both yet, or is won")
    private static void wrongWins() {
        for (int side = 0; side < 2; side++) {
            int who = side;
            Check.refused("wins, a bye", Check.STATE, TableauTest::drawnUp, h -> h.wins(0, 0, who));
            Check.refused("wins, one is not there yet", Check.STATE, TableauTest::drawnUp, h -> h.wins(1, 0, who));
            Check.refused("wins, nobody is there yet", Check.STATE, TableauTest::drawnUp, h -> h.wins(2, 0, who));
            Check.refused("wins, the first one is not there yet", Check.STATE, h -> {
                drawnUp(h);
                h.wins(1, 1, 0);
            }, h -> h.wins(2, 0, who));
            Check.refused("wins, won", Check.STATE, h -> {
                drawnUp(h);
                h.wins(0, 1, 0);
            }, h -> h.wins(0, 1, who));
        }
    }
}
