/** Promise 7: cards, which pile by bout. */
final class CardTest {
    private static final int YELLOW = Phrasehall.YELLOW, RED = Phrasehall.RED, BLACK = Phrasehall.BLACK;

    public static void main(String[] args) {
        inGroupOne();
        inGroupTwo();
        inGroupThree();
        eachFencerForThemselves();
        eachBoutAnew();
        blackEndsIt();
        redEndsIt();
        redInMoreTime();
        wrongCalls();
        withoutABout();
        Check.done();
    }

    @Says(in = "Cards, clocks", value = {"by groups: in the group 1 a YELLOW one, if they have no card of any group yet,"
            + " otherwise a RED one;"})
    private static void inGroupOne() {
        piles("yellow, then red", new int[] {1, 1, 1}, new int[] {YELLOW, RED, RED});
        piles("group 1 behind group 2", new int[] {2, 1, 1}, new int[] {RED, RED, RED});
        piles("group 1 behind group 3", new int[] {3, 1, 1}, new int[] {RED, RED, RED});
    }

    @Says(in = "Cards, clocks", value = "in the group 2 a RED one;")
    private static void inGroupTwo() {
        piles("group 2", new int[] {2, 2, 2, 1}, new int[] {RED, RED, RED, RED});
        piles("group 2 behind group 1", new int[] {1, 2, 2}, new int[] {YELLOW, RED, RED});
        piles("group 2 behind group 3", new int[] {3, 2, 2, 3}, new int[] {RED, RED, RED, BLACK});
    }

    @Says(in = "Cards, clocks", value = "in the group 3 a RED one, or, if they had one of the group 3 in this bout, a BLACK"
            + " one.")
    private static void inGroupThree() {
        piles("group 3 twice", new int[] {3, 3}, new int[] {RED, BLACK});
        piles("group 3 behind group 1", new int[] {1, 3, 3}, new int[] {YELLOW, RED, BLACK});
        piles("group 3 behind red ones", new int[] {2, 2, 3, 3}, new int[] {RED, RED, RED, BLACK});
        piles("group 3 behind others", new int[] {1, 2, 3, 1, 2, 3}, new int[] {YELLOW, RED, RED, RED, RED, BLACK});
    }

    @Says(in = "card", value = {"Gives a card to a side.", "Returns YELLOW to BLACK."})
    private static void piles(String what, int[] groups, int[] due) {
        for (int side = 0; side < 2; side++) {
            Phrasehall hall = Halls.bout(Phrasehall.SABRE, 45);
            int touches = 0;
            for (int i = 0; i < groups.length; i++) {
                Check.due("card, " + what + ", " + i, hall.card(side, groups[i]), due[i]);
                touches += due[i] == RED ? 1 : 0;
                Check.due("touches of the other, " + what, hall.ofBout(0, 1 - side), touches);
                Check.due("own touches, " + what, hall.ofBout(0, side), 0);
                Check.due("winner, " + what, hall.ofBout(0, 2), due[i] == BLACK ? 1 - side : -1);
            }
        }
    }

    private static void eachFencerForThemselves() {
        Phrasehall hall = Halls.bout(Phrasehall.SABRE, 45);
        hall.card(0, 3);
        Check.due("first card of the other", hall.card(1, 1), YELLOW);
        Check.due("first of group 3 of the other", hall.card(1, 3), RED);
        Check.due("second of group 3 of the first one", hall.card(0, 3), BLACK);
    }

    @Says(in = "Cards, clocks", value = "In a bout a fencer gets cards")
    private static void eachBoutAnew() {
        Phrasehall hall = Halls.bout(Phrasehall.SABRE, 45);
        hall.card(0, 1);
        hall.card(0, 3);
        hall.end();
        hall.begin(0, 1, Phrasehall.SABRE, 45, Phrasehall.NONE);
        Check.due("group 1 in the next bout", hall.card(0, 1), YELLOW);
        Check.due("group 3 in the next bout", hall.card(0, 3), RED);
        Check.due("group 3 in the next bout again", hall.card(0, 3), BLACK);
        hall.begin(1, 0, Phrasehall.SABRE, 45, Phrasehall.NONE);
        Check.due("group 1 in the bout behind a black one", hall.card(1, 1), YELLOW);
        Check.due("group 3 in the bout behind a black one", hall.card(1, 3), RED);
    }

    @Says(in = "Cards, clocks", value = "with a BLACK one the bout is over, and the other side wins.")
    private static void blackEndsIt() {
        Phrasehall hall = Halls.bout(Phrasehall.SABRE, 45);
        Halls.give(hall, 0, 3);
        hall.card(0, 3);
        Check.due("black", hall.card(0, 3), BLACK);
        Check.due("the other side wins with fewer touches", hall.ofBout(0, 2), 1);
        Check.due("touches of who lost", hall.ofBout(0, 0), 3);
        Check.due("touches of who won", hall.ofBout(0, 1), 1);
        Check.due("no bout then", Check.answer(hall, h -> h.card(0, 1)), "IllegalStateException");
        for (int side = 0; side < 2; side++) {
            Phrasehall like = Halls.bout(Phrasehall.SABRE, 45);
            like.card(side, 3);
            Halls.give(like, side, 1);
            like.card(side, 3);
            Check.due("the other side wins with like touches", like.ofBout(0, 2), 1 - side);
            Check.due("a black one gives no touch", like.ofBout(0, 1 - side), 1);
        }
    }

    @Says(in = "Cards, clocks", value = "With a RED card the other side gets a touch;")
    private static void redEndsIt() {
        for (int side = 0; side < 2; side++) {
            for (int group = 1; group <= 3; group++) {
                Phrasehall hall = Halls.bout(Phrasehall.SABRE, 2);
                hall.card(side, 2);
                Check.due("on the piste at 1 of 2", hall.ofBout(0, 2), Phrasehall.NONE);
                Check.due("the last red one", hall.card(side, group), RED);
                Check.due("touches", hall.ofBout(0, 1 - side), 2);
                Check.due("won by a card", hall.ofBout(0, 2), 1 - side);
            }
            Phrasehall yellow = Halls.bout(Phrasehall.SABRE, 1);
            Check.due("a yellow one", yellow.card(side, 1), YELLOW);
            Check.due("no touch by a yellow one", yellow.ofBout(0, 1 - side), 0);
            Check.due("on the piste at 0 of 1", yellow.ofBout(0, 2), Phrasehall.NONE);
        }
    }

    /** The touch of a card makes them unlike, too; a YELLOW one does not. */
    private static void redInMoreTime() {
        Phrasehall hall = Halls.bout(Phrasehall.EPEE, 9);
        hall.clock(121);
        Halls.doubleTouch(hall);
        Check.due("drawn", hall.clock(59), 60);
        hall.card(0, 1);
        Check.due("on the piste behind a yellow one", hall.ofBout(0, 2), Phrasehall.NONE);
        hall.card(0, 1);
        Check.due("over behind a red one", hall.ofBout(0, 2), 1);
    }

    private static void onPiste(Phrasehall hall) {
        Halls.take(hall, 2);
        hall.begin(0, 1, Phrasehall.SABRE, 5, Phrasehall.NONE);
    }

    @Says(in = "card", value = {"`side`: 0 or 1", "`group`: 1 to 3",
        "Throws `IllegalArgumentException` if side or group is out of range"})
    private static void wrongCalls() {
        int[][] wrong = {{-1, 1}, {2, 1}, {0, 0}, {0, 4}, {1, -1}, {Integer.MAX_VALUE, 1}, {Integer.MIN_VALUE, 1},
            {1, Integer.MAX_VALUE}, {1, Integer.MIN_VALUE}, {2, 4}};
        for (int[] w : wrong) {
            Check.refused("card " + w[0] + " " + w[1], Check.ARGUMENT, CardTest::onPiste, h -> h.card(w[0], w[1]));
            Check.refused("card " + w[0] + " " + w[1] + " without a bout", Check.ARGUMENT, h -> Halls.take(h, 2),
                    h -> h.card(w[0], w[1]));
        }
    }

    @Says(in = "card", value = "Throws `IllegalStateException` if no bout is on the piste")
    private static void withoutABout() {
        Check.refused("card in a new hall", Check.STATE, h -> { }, h -> h.card(0, 1));
        Check.refused("card without a bout", Check.STATE, h -> Halls.take(h, 2), h -> h.card(0, 1));
        Check.refused("card when over", Check.STATE, h -> {
            onPiste(h);
            h.card(1, 3);
            h.card(1, 3);
        }, h -> h.card(1, 1));
        Check.refused("card when ended", Check.STATE, h -> {
            onPiste(h);
            h.end();
        }, h -> h.card(0, 3));
    }
}
