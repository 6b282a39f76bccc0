/** Halls as tests need them. */
final class Halls {
    private Halls() {
    }

    static Phrasehall with(int fencers) {
        Phrasehall hall = new Phrasehall();
        take(hall, fencers);
        return hall;
    }

    static void take(Phrasehall hall, int fencers) {
        for (int i = 0; i < fencers; i++) {
            hall.fencer();
        }
    }

    /** A hall of two fencers with a bout on the piste, of no pool. */
    static Phrasehall bout(int weapon, int to) {
        Phrasehall hall = with(2);
        hall.begin(0, 1, weapon, to, Phrasehall.NONE);
        return hall;
    }

    /** A whole bout with just these touches, given by cards, and ended. */
    static int fence(Phrasehall hall, int pool, int left, int right, int leftTouches, int rightTouches) {
        int bout = hall.begin(left, right, Phrasehall.SABRE, 45, pool);
        give(hall, 0, leftTouches);
        give(hall, 1, rightTouches);
        hall.end();
        return bout;
    }

    /** Touches for a side, by RED cards of the other one. */
    static void give(Phrasehall hall, int side, int touches) {
        for (int i = 0; i < touches; i++) {
            hall.card(1 - side, 2);
        }
    }

    /** A touch for each side by an EPEE's double. */
    static int doubleTouch(Phrasehall hall) {
        hall.hit(0, 0, 2, Phrasehall.ON);
        hall.hit(1, 0, 2, Phrasehall.ON);
        return hall.judge();
    }

    /** A touch for one side by its lamp alone. */
    static int singleTouch(Phrasehall hall, int side) {
        hall.hit(side, 0, 1000, Phrasehall.ON);
        return hall.judge();
    }
}
