/** Promise 7: cards, which pile by bout. */
final class CardTest {
    private static final int YELLOW = Phrasehall.YELLOW, RED = Phrasehall.RED, BLACK = Phrasehall.BLACK;

    public static void main(String[] args) {
        piles("yellow, then red", new int[] {1, 1, 1}, new int[] {YELLOW, RED, RED});
        piles("group 2", new int[] {2, 2, 1}, new int[] {RED, RED, RED});
        piles("group 1 behind group 3", new int[] {3, 1}, new int[] {RED, RED});
        piles("group 3 behind others", new int[] {1, 2, 3, 1, 2, 3}, new int[] {YELLOW, RED, RED, RED, RED, BLACK});
        eachFencerForThemselves();
        eachBoutAnew();
        blackEndsIt();
        redEndsIt();
        wrongCalls();
        Check.done();
    }

    private static void piles(String what, int[] groups, int[] due) {
        for (int side = 0; side < 2; side++) {
            Phrasehall hall = Halls.bout(Phrasehall.SABRE, 45);
            int touches = 0;
            for (int i = 0; i < groups.length; i++) {
                Check.due("card, " + what + ", " + i, hall.card(side, groups[i]), due[i]);
                touches += due[i] == RED ? 1 : 0;
                Check.due("touches of the other, " + what, hall.ofBout(0, 1 - side), touches);
                Check.due("own touches, " + what, hall.ofBout(0, side), 0);
                Check.due("winner, " + what, hall.ofBout(0, 2), due[i] == BLACK ? 1 - side : -1);
            }
        }
    }

    private static void eachFencerForThemselves() {
        Phrasehall hall = Halls.bout(Phrasehall.SABRE, 45);
        hall.card(0, 3);
        Check.due("first card of the other", hall.card(1, 1), YELLOW);
        Check.due("first of group 3 of the other", hall.card(1, 3), RED);
    }

    private static void eachBoutAnew() {
        Phrasehall hall = Halls.bout(Phrasehall.SABRE, 45);
        hall.card(0, 1);
        hall.card(0, 3);
        hall.end();
        hall.begin(0, 1, Phrasehall.SABRE, 45, Phrasehall.NONE);
        Check.due("group 1 in the next bout", hall.card(0, 1), YELLOW);
        Check.due("group 3 in the next bout", hall.card(0, 3), RED);
    }

    private static void blackEndsIt() {
        Phrasehall hall = Halls.bout(Phrasehall.SABRE, 45);
        Halls.give(hall, 0, 3);
        hall.card(0, 3);
        Check.due("black", hall.card(0, 3), BLACK);
        Check.due("the other side wins with fewer touches", hall.ofBout(0, 2), 1);
        Check.due("touches of who lost", hall.ofBout(0, 0), 3);
        Check.due("touches of who won", hall.ofBout(0, 1), 1);
        Check.due("no bout then", Check.answer(hall, h -> h.card(0, 1)), "IllegalStateException");
    }

    private static void redEndsIt() {
        Phrasehall hall = Halls.bout(Phrasehall.SABRE, 2);
        hall.card(0, 2);
        Check.due("the last red one", hall.card(0, 2), RED);
        Check.due("won by a card", hall.ofBout(0, 2), 1);
    }

    private static void onPiste(Phrasehall hall) {
        Halls.take(hall, 2);
        hall.begin(0, 1, Phrasehall.SABRE, 5, Phrasehall.NONE);
    }

    private static void wrongCalls() {
        int[][] wrong = {{-1, 1}, {2, 1}, {0, 0}, {0, 4}, {1, -1}, {Integer.MAX_VALUE, 1}};
        for (int[] w : wrong) {
            Check.refused("card " + w[0] + " " + w[1], Check.ARGUMENT, CardTest::onPiste, h -> h.card(w[0], w[1]));
            Check.refused("card " + w[0] + " " + w[1] + " without a bout", Check.ARGUMENT, h -> Halls.take(h, 2),
                    h -> h.card(w[0], w[1]));
        }
        Check.refused("card without a bout", Check.STATE, h -> Halls.take(h, 2), h -> h.card(0, 1));
    }
}
