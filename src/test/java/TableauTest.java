/** Promises 13, 14 and 22: tableaux, who meets and who wins. */
final class TableauTest {
    private static final int NONE = Phrasehall.NONE;

    public static void main(String[] args) {
        sizes();
        orderOfRanks();
        byesOf11();
        fencedOut();
        byRanksAsTheyAreThen();
        inPlaceOfTheOneBefore();
        wrongTableaux();
        wrongMatches();
        wrongSides();
        wrongWins();
        Check.done();
    }

    private static Phrasehall ready(int fencers) {
        Phrasehall hall = Halls.with(fencers);
        hall.pool((1 << fencers) - 1);
        return hall;
    }

    private static void sizes() {
        int[] due = {0, 0, 2, 4, 4, 8, 8, 8, 8, 16, 16, 16, 16};
        for (int fencers = 2; fencers <= 12; fencers++) {
            Phrasehall hall = ready(fencers);
            Check.due("tableau of " + fencers, hall.tableau(0), due[fencers]);
            int rounds = 0;
            for (int matches = due[fencers] / 2; matches > 0; matches /= 2) {
                int round = rounds;
                int last = matches - 1;
                Check.due("the last match, round " + round,
                        Check.answer(hall, h -> h.meets(round, last, 2)).equals("IndexOutOfBoundsException") ? 1 : 0, 0);
                Check.due("no more matches, round " + round, Check.answer(hall, h -> h.meets(round, last + 1, 0)),
                        "IndexOutOfBoundsException");
                rounds++;
            }
            int behind = rounds;
            Check.due("no more rounds", Check.answer(hall, h -> h.meets(behind, 0, 0)), "IndexOutOfBoundsException");
        }
    }

    private static void meeting(Phrasehall hall, int round, int match, int... due) {
        for (int side = 0; side < due.length; side++) {
            Check.due("meets " + round + " " + match + " " + side, hall.meets(round, match, side), due[side]);
        }
    }

    private static void orderOfRanks() {
        Phrasehall two = ready(2);
        two.tableau(0);
        meeting(two, 0, 0, 0, 1, NONE);
        Phrasehall four = ready(4);
        four.tableau(0);
        meeting(four, 0, 0, 0, 3, NONE);
        meeting(four, 0, 1, 1, 2, NONE);
        meeting(four, 1, 0, NONE, NONE, NONE);
        Phrasehall eight = ready(8);
        eight.tableau(0);
        int[][] due = {{0, 7}, {3, 4}, {1, 6}, {2, 5}};
        for (int match = 0; match < 4; match++) {
            meeting(eight, 0, match, due[match][0], due[match][1], NONE);
        }
    }

    private static void byesOf11() {
        Phrasehall hall = ready(11);
        hall.tableau(0);
        int[][] due = {{0, NONE, 0}, {7, 8, NONE}, {3, NONE, 3}, {4, NONE, 4}, {1, NONE, 1}, {6, 9, NONE}, {2, NONE, 2},
            {5, 10, NONE}};
        for (int match = 0; match < 8; match++) {
            meeting(hall, 0, match, due[match]);
        }
        meeting(hall, 1, 0, 0, NONE, NONE);
        meeting(hall, 1, 1, 3, 4, NONE);
        meeting(hall, 1, 2, 1, NONE, NONE);
        meeting(hall, 1, 3, 2, NONE, NONE);
        meeting(hall, 2, 0, NONE, NONE, NONE);
        Check.due("wins where byes meet", hall.wins(1, 1, 0), 3);
        meeting(hall, 2, 0, NONE, 3, NONE);
    }

    private static void fencedOut() {
        Phrasehall hall = ready(12);
        Check.due("tableau", hall.tableau(0), 16);
        int[] winners = new int[8];
        for (int round = 0, matches = 8; matches > 0; round++, matches /= 2) {
            for (int match = 0; match < matches; match++) {
                int side = (round + match) % 2;
                int bye = hall.meets(round, match, 2);
                winners[match] = bye != NONE ? bye : hall.meets(round, match, side);
                if (bye == NONE) {
                    Check.due("wins " + round + " " + match, hall.wins(round, match, side), winners[match]);
                }
                Check.due("who won " + round + " " + match, hall.meets(round, match, 2), winners[match]);
            }
            for (int match = 0; match + 1 < matches; match += 2) {
                meeting(hall, round + 1, match / 2, winners[match], winners[match + 1], NONE);
            }
        }
        Check.due("who won it all", hall.meets(3, 0, 2), winners[0]);
        Check.due("the final is won", Check.answer(hall, h -> h.wins(3, 0, 1)), "IllegalStateException");
    }

    private static void byRanksAsTheyAreThen() {
        Phrasehall hall = Halls.with(6);
        hall.pool(1 << 5 | 1 << 3 | 1 << 1 | 1);
        Halls.fence(hall, 0, 5, 3, 2, 0);
        Halls.fence(hall, 0, 3, 1, 1, 0);
        hall.withdraw(0, 0);
        // 5 has 1 of 1, 3 has 1 of 2, 1 has 0 of 1
        Check.due("tableau of three", hall.tableau(0), 4);
        meeting(hall, 0, 0, 5, NONE, 5);
        meeting(hall, 0, 1, 3, 1, NONE);
        meeting(hall, 1, 0, 5, NONE, NONE);
        hall.withdraw(0, 5);
        Halls.fence(hall, 0, 1, 3, 9, 0);
        meeting(hall, 0, 0, 5, NONE, 5);
        meeting(hall, 0, 1, 3, 1, NONE);
        Check.due("wins", hall.wins(0, 1, 1), 1);
        Check.due("wins, who withdrew from the pool", hall.wins(1, 0, 0), 5);
        meeting(hall, 1, 0, 5, 1, 5);
    }

    private static void inPlaceOfTheOneBefore() {
        Phrasehall hall = Halls.with(12);
        hall.pool(4095);
        hall.pool(3);
        hall.pool(28);
        hall.tableau(0);
        hall.wins(0, 1, 0);
        Check.due("a smaller one", hall.tableau(1), 2);
        meeting(hall, 0, 0, 0, 1, NONE);
        Check.due("matches of the one before", Check.answer(hall, h -> h.meets(0, 1, 0)), "IndexOutOfBoundsException");
        hall.wins(0, 0, 1);
        Check.due("a larger one", hall.tableau(2), 4);
        meeting(hall, 0, 0, 2, NONE, 2);
        meeting(hall, 0, 1, 3, 4, NONE);
        meeting(hall, 1, 0, 2, NONE, NONE);
        hall.wins(0, 1, 1);
        hall.wins(1, 0, 1);
        Check.due("the same anew", hall.tableau(2), 4);
        meeting(hall, 0, 1, 3, 4, NONE);
        meeting(hall, 1, 0, 2, NONE, NONE);
    }

    private static void drawnUp(Phrasehall hall) {
        Halls.take(hall, 5);
        hall.pool(31);
        hall.pool(3);
        hall.tableau(0);
    }

    private static void wrongTableaux() {
        for (int pool : new int[] {-1, 2, 6, Integer.MIN_VALUE, Integer.MAX_VALUE}) {
            Check.refused("tableau " + pool, Check.INDEX, TableauTest::drawnUp, h -> h.tableau(pool));
        }
        Check.refused("tableau of one", Check.STATE, h -> {
            drawnUp(h);
            h.withdraw(1, 0);
        }, h -> h.tableau(1));
        Check.refused("tableau of nobody", Check.STATE, h -> {
            drawnUp(h);
            h.withdraw(1, 0);
            h.withdraw(1, 1);
        }, h -> h.tableau(1));
    }

    private static void wrongMatches() {
        int[][] wrong = {{-1, 0}, {0, -1}, {0, 4}, {1, 2}, {2, 1}, {3, 0}, {4, 0}, {31, 0}, {32, 0}, {33, 1},
            {Integer.MAX_VALUE, 0}, {0, Integer.MAX_VALUE}, {Integer.MIN_VALUE, 0}};
        for (int[] w : wrong) {
            String what = w[0] + " " + w[1];
            Check.refused("wins " + what, Check.INDEX, TableauTest::drawnUp, h -> h.wins(w[0], w[1], 0));
            Check.refused("wins, side too, " + what, Check.INDEX, TableauTest::drawnUp, h -> h.wins(w[0], w[1], 9));
            Check.refused("meets " + what, Check.INDEX, TableauTest::drawnUp, h -> h.meets(w[0], w[1], 0));
            Check.refused("meets, side too, " + what, Check.INDEX, TableauTest::drawnUp, h -> h.meets(w[0], w[1], 9));
        }
        Check.refused("wins without a tableau", Check.INDEX, h -> Halls.take(h, 2), h -> h.wins(0, 0, 0));
        Check.refused("meets without a tableau", Check.INDEX, h -> Halls.take(h, 2), h -> h.meets(0, 0, 0));
    }

    private static void wrongSides() {
        for (int side : new int[] {-1, 3, Integer.MIN_VALUE, Integer.MAX_VALUE}) {
            Check.refused("meets 0 0 " + side, Check.ARGUMENT, TableauTest::drawnUp, h -> h.meets(0, 0, side));
        }
        for (int side : new int[] {-1, 2, Integer.MIN_VALUE, Integer.MAX_VALUE}) {
            Check.refused("wins 0 1 " + side, Check.ARGUMENT, TableauTest::drawnUp, h -> h.wins(0, 1, side));
            Check.refused("wins of a won one " + side, Check.ARGUMENT, TableauTest::drawnUp, h -> h.wins(0, 0, side));
        }
    }

    private static void wrongWins() {
        for (int side = 0; side < 2; side++) {
            int who = side;
            Check.refused("wins, a bye", Check.STATE, TableauTest::drawnUp, h -> h.wins(0, 0, who));
            Check.refused("wins, one is not there yet", Check.STATE, TableauTest::drawnUp, h -> h.wins(1, 0, who));
            Check.refused("wins, nobody is there yet", Check.STATE, TableauTest::drawnUp, h -> h.wins(2, 0, who));
            Check.refused("wins, the first one is not there yet", Check.STATE, h -> {
                drawnUp(h);
                h.wins(1, 1, 0);
            }, h -> h.wins(2, 0, who));
            Check.refused("wins, won", Check.STATE, h -> {
                drawnUp(h);
                h.wins(0, 1, 0);
            }, h -> h.wins(0, 1, who));
        }
    }
}
