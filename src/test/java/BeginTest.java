/** Promise 3: begin. */
final class BeginTest {
    private static final int NONE = Phrasehall.NONE;
    private static final int FOIL = Phrasehall.FOIL, EPEE = Phrasehall.EPEE, SABRE = Phrasehall.SABRE;

    public static void main(String[] args) {
        newBoutIsBlank();
        sidesAreAsGiven();
        weaponsAndTouches();
        weaponIsTheBoutsOwn();
        eightyBouts();
        oneOnThePiste();
        fencersThereAre();
        poolsThereAre();
        bothAreOne();
        poolWithoutBoth();
        withdrawn();
        whichIsFirst();
        Check.done();
    }

    @Says(in = "begin", value = "Begins a bout.")
    @Says(in = "begin", value = "Returns its number.")
    private static void newBoutIsBlank() {
        Phrasehall hall = Halls.with(3);
        Check.due("begin", hall.begin(2, 0, FOIL, 5, NONE), 0);
        int[] due = {0, 0, -1, 0, 0, -1};
        for (int what = 0; what < 6; what++) {
            Check.due("ofBout of a new one, " + what, hall.ofBout(0, what), due[what]);
        }
        hall.end();
        Check.due("begin again", hall.begin(2, 0, FOIL, 5, NONE), 1);
    }

    @Says(in = "begin", value = {"`left`: a fencer, on the side 0", "`right`: another one, on the side 1"})
    @Says(in = "Bouts, phrases", value = "a bout is of two fencers, on the side 0 and on the side 1,")
    private static void sidesAreAsGiven() {
        for (int turn = 0; turn < 2; turn++) {
            Phrasehall hall = Halls.with(2);
            hall.pool(3);
            hall.begin(turn, 1 - turn, SABRE, 5, 0);
            Halls.give(hall, 0, 2);
            Halls.give(hall, 1, 1);
            hall.end();
            Check.due("touches of who is on the side 0", hall.ofPool(0, turn, 2), 2);
            Check.due("touches of who is on the side 1", hall.ofPool(0, 1 - turn, 2), 1);
            Check.due("wins of who is on the side 0", hall.ofPool(0, turn, 1), 1);
        }
    }

    @Says(in = "Bouts, phrases", value = "with a weapon, FOIL, EPEE or SABRE, to so many touches,")
    @Says(in = "begin", value = {"`weapon`: FOIL to SABRE", "`to`: 1 to 45", "weapon or to is out of range,"})
    private static void weaponsAndTouches() {
        for (int weapon = FOIL; weapon <= SABRE; weapon++) {
            int with = weapon;
            for (int to : new int[] {1, 2, 44, 45}) {
                Phrasehall hall = Halls.with(2);
                Check.due("weapon " + weapon + " to " + to, hall.begin(0, 1, weapon, to, NONE), 0);
                Halls.give(hall, 1, to - 1);
                Check.due("on the piste one touch ahead of " + to, hall.ofBout(0, 2), NONE);
                Halls.give(hall, 1, 1);
                Check.due("over at " + to, hall.ofBout(0, 2), 1);
            }
            for (int to : new int[] {0, 46, -1, Integer.MIN_VALUE, Integer.MAX_VALUE}) {
                Check.refused("begin to " + to, Check.ARGUMENT, BeginTest::pooled, h -> h.begin(0, 1, with, to, NONE));
            }
        }
        for (int weapon : new int[] {-1, 3, Integer.MIN_VALUE, Integer.MAX_VALUE}) {
            Check.refused("begin with " + weapon, Check.ARGUMENT, BeginTest::pooled, h -> h.begin(0, 1, weapon, 5, 0));
        }
    }

    private static void weaponIsTheBoutsOwn() {
        Phrasehall hall = Halls.with(2);
        int[] due = {NONE, Phrasehall.ON, Phrasehall.ON};
        for (int weapon : new int[] {SABRE, FOIL, EPEE, SABRE}) {
            hall.begin(0, 1, weapon, 5, NONE);
            hall.hit(0, 0, 13, Phrasehall.ON);
            Check.due("lamp by a span of 13 with " + weapon, hall.lamp(0), due[weapon]);
            hall.end();
        }
    }

    @Says(in = "Bouts, phrases", value = "Bouts are numbered from 0, at most 80;")
    @Says(in = "begin", value = "or there were 80")
    private static void eightyBouts() {
        Check.refused("the 81st bout", Check.STATE, BeginTest::fenceEighty, h -> h.begin(0, 1, 0, 1, NONE));
        Phrasehall hall = new Phrasehall();
        fenceEighty(hall);
        Check.due("the last one", hall.ofBout(79, 2), 0);
        Check.due("the 81st bout, of others", Check.answer(hall, h -> h.begin(1, 2, 1, 45, 0)), "IllegalStateException");
        Check.due("it is not there", Check.answer(hall, h -> h.ofBout(80, 0)), "IndexOutOfBoundsException");
        Check.due("no bout is on the piste", Check.answer(hall, h -> h.end()), "IllegalStateException");
        Check.due("bouts of the pool", hall.ofPool(0, 0, 0), 40);
        Check.due("bouts of the pool anew", hall.ofPoolAnew(0, 0, 0), 40);
        Check.due("withdraw from all", hall.withdraw(0, 0), 40);
        Check.refused("weapon ahead of too many", Check.ARGUMENT, BeginTest::fenceEighty, h -> h.begin(0, 1, 3, 1, NONE));
        Check.refused("no fencer ahead of too many", Check.INDEX, BeginTest::fenceEighty, h -> h.begin(3, 1, 0, 1, NONE));
    }

    /** Every other one of the pool 0, and all of them won by 0. */
    private static void fenceEighty(Phrasehall hall) {
        Halls.take(hall, 3);
        hall.pool(7);
        for (int i = 0; i < 80; i++) {
            Check.due("begin", hall.begin(0, 1, 0, 1, i % 2 == 0 ? 0 : NONE), i);
            Check.due("end", hall.end(), 0);
        }
    }

    @Says(in = "Bouts, phrases", value = "At most one is on the piste; it is over when it ends, or is ended.")
    @Says(in = "begin", value = "Throws `IllegalStateException` if a bout is on the piste,")
    private static void oneOnThePiste() {
        Check.refused("begin, one on the piste", Check.STATE, h -> {
            pooled(h);
            h.begin(0, 1, SABRE, 5, NONE);
            h.act(0, 0, 9);
        }, h -> h.begin(2, 3, SABRE, 5, NONE));
        Phrasehall hall = Halls.with(2);
        for (int i = 0; i < 12; i++) {
            Check.due("begin", hall.begin(0, 1, SABRE, 1, NONE), i);
            Check.due("begin, one on the piste", Check.answer(hall, h -> h.begin(0, 1, SABRE, 1, NONE)),
                    "IllegalStateException");
            finish(hall, i % 6);
            Check.due("over, way " + i % 6, hall.ofBout(i, 2) != NONE ? 1 : 0, 1);
        }
    }

    private static void finish(Phrasehall hall, int way) {
        switch (way) {
            case 0:
                hall.end();
                break;
            case 1:
                Halls.singleTouch(hall, 1);
                break;
            case 2:
                hall.card(0, 2);
                break;
            case 3:
                Check.due("passive twice", hall.clock(120), 0);
                break;
            case 4:
                hall.card(0, 1);
                hall.card(0, 1);
                break;
            default:
                hall.clock(119);
                hall.clock(1);
                break;
        }
    }

    private static void pooled(Phrasehall hall) {
        Halls.take(hall, 4);
        hall.pool(7);
    }

    @Says(in = "begin", value = "Throws `IndexOutOfBoundsException` if there is no such fencer, of either,")
    private static void fencersThereAre() {
        for (int[] right : new int[][] {{0, 3}, {3, 0}}) {
            Phrasehall hall = Halls.with(4);
            Check.due("begin of the first and the last", hall.begin(right[0], right[1], 0, 5, NONE), 0);
        }
        for (int wrong : new int[] {-1, 4, 5, 11, 12, 32, Integer.MIN_VALUE, Integer.MAX_VALUE}) {
            Check.refused("begin of " + wrong + " on the left", Check.INDEX, BeginTest::pooled,
                    h -> h.begin(wrong, 1, 0, 5, NONE));
            Check.refused("begin of " + wrong + " on the right", Check.INDEX, BeginTest::pooled,
                    h -> h.begin(1, wrong, 0, 5, 0));
        }
    }

    @Says(in = "begin", value = {"`pool`: the number of a pool that has both, or NONE", "or pool, but for NONE"})
    @Says(in = "Bouts, phrases", value = "and perhaps of a pool.")
    private static void poolsThereAre() {
        for (int pool : new int[] {NONE, 0, 5}) {
            Phrasehall hall = Halls.with(3);
            for (int i = 0; i < 6; i++) {
                hall.pool(7);
            }
            Check.due("begin, pool " + pool, hall.begin(0, 1, 0, 5, pool), 0);
            hall.end();
            for (int i = 0; i < 6; i++) {
                Check.due("bouts of the pool " + i, hall.ofPool(i, 0, 0), i == pool ? 1 : 0);
            }
            Check.due("begin, the pool 6 of 6", Check.answer(hall, h -> h.begin(0, 1, 0, 5, 6)),
                    "IndexOutOfBoundsException");
        }
        for (int pool : new int[] {-2, 1, 5, 6, Integer.MIN_VALUE, Integer.MAX_VALUE}) {
            Check.refused("begin, pool " + pool, Check.INDEX, BeginTest::pooled, h -> h.begin(0, 1, 0, 5, pool));
        }
        Check.refused("begin, pool 0 of none", Check.INDEX, h -> Halls.take(h, 2), h -> h.begin(0, 1, 0, 5, 0));
    }

    @Says(in = "begin", value = "Throws `IllegalArgumentException` if both are one,")
    private static void bothAreOne() {
        for (int pool = NONE; pool <= 0; pool++) {
            int of = pool;
            Check.refused("begin of one, the first", Check.ARGUMENT, BeginTest::pooled, h -> h.begin(0, 0, 0, 5, of));
            Check.refused("begin of one, the last", Check.ARGUMENT, BeginTest::pooled, h -> h.begin(2, 2, 0, 5, of));
        }
    }

    @Says(in = "begin", value = "or the pool does not have both")
    private static void poolWithoutBoth() {
        Phrasehall hall = new Phrasehall();
        pooled(hall);
        Check.due("begin, of no pool", hall.begin(0, 3, 0, 5, NONE), 0);
        hall.end();
        Check.due("begin, the pool has both", hall.begin(2, 0, 0, 5, 0), 1);
        int[][] wrong = {{0, 3}, {3, 0}, {3, 4}};
        for (int[] w : wrong) {
            Check.refused("begin, not of the pool, " + w[0] + " " + w[1], Check.ARGUMENT, h -> {
                pooled(h);
                h.fencer();
            }, h -> h.begin(w[0], w[1], 0, 5, 0));
        }
    }

    @Says(in = "begin", value = "one of them withdrew from the pool,")
    private static void withdrawn() {
        Phrasehall hall = Halls.with(4);
        hall.pool(15);
        hall.pool(15);
        hall.withdraw(0, 1);
        Check.due("begin of no pool", hall.begin(0, 1, 0, 1, NONE), 0);
        hall.end();
        Check.due("begin of another pool", hall.begin(0, 1, 0, 1, 1), 1);
        hall.end();
        Check.due("begin of others", hall.begin(0, 2, 0, 1, 0), 2);
        for (int gone = 0; gone < 2; gone++) {
            int who = gone;
            Check.refused("begin, " + gone + " withdrew", Check.STATE, h -> {
                pooled(h);
                h.withdraw(0, who);
            }, h -> h.begin(0, 1, 0, 5, 0));
        }
        Check.refused("begin, both withdrew", Check.STATE, h -> {
            pooled(h);
            h.withdraw(0, 0);
            h.withdraw(0, 1);
        }, h -> h.begin(0, 1, 0, 5, 0));
    }

    @Says(in = "Terms", value = "if several exceptions apply, the one that its throws clause names first is thrown.")
    private static void whichIsFirst() {
        Check.refused("no fencer ahead of weapon", Check.INDEX, BeginTest::pooled, h -> h.begin(9, 9, 7, 0, NONE));
        Check.refused("no right fencer ahead of touches", Check.INDEX, BeginTest::pooled, h -> h.begin(1, 9, 0, 0, NONE));
        Check.refused("no pool ahead of touches", Check.INDEX, BeginTest::pooled, h -> h.begin(1, 1, 7, 0, 3));
        Check.refused("no fencer ahead of not of the pool", Check.INDEX, BeginTest::pooled, h -> h.begin(3, 4, 0, 5, 0));
        int[][] onPiste = {{0, 4, 0, 5, NONE}, {0, 1, 0, 5, 1}, {4, 4, 3, 0, 1}};
        for (int[] w : onPiste) {
            Check.refused("no fencer or pool ahead of the piste", Check.INDEX, BeginTest::busy,
                    h -> h.begin(w[0], w[1], w[2], w[3], w[4]));
        }
        int[][] wrong = {{0, 0, 0, 5, NONE}, {0, 1, 3, 5, NONE}, {0, 1, 0, 0, NONE}, {0, 1, 0, 46, 0}, {0, 3, 0, 5, 0}};
        for (int[] w : wrong) {
            Check.refused("arguments ahead of the piste", Check.ARGUMENT, BeginTest::busy,
                    h -> h.begin(w[0], w[1], w[2], w[3], w[4]));
        }
        Check.refused("not of the pool ahead of withdrew", Check.ARGUMENT, h -> {
            pooled(h);
            h.withdraw(0, 0);
        }, h -> h.begin(0, 3, 0, 5, 0));
        Check.refused("both are one ahead of withdrew", Check.ARGUMENT, h -> {
            pooled(h);
            h.withdraw(0, 0);
        }, h -> h.begin(0, 0, 0, 5, 0));
    }

    private static void busy(Phrasehall hall) {
        pooled(hall);
        hall.begin(0, 1, 0, 5, NONE);
    }
}
