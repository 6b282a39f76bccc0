/** Promises 1 and 2: a new hall, and fencers. */
final class FencerTest {
    public static void main(String[] args) {
        newHallIsEmpty();
        fencersAreNumbered();
        twelveAtMost();
        hallsAreApart();
        Check.done();
    }

    @Says(in = "A new object", value = "Creates a hall without fencers.")
    private static void newHallIsEmpty() {
        Phrasehall hall = new Phrasehall();
        Check.due("new holder()", hall.holder(), -1);
        Check.due("new reason()", hall.reason(), -1);
        Check.due("new lamp(0)", hall.lamp(0), -1);
        Check.due("new lamp(1)", hall.lamp(1), -1);
        Check.due("new ofBout", Check.answer(hall, h -> h.ofBout(0, 0)), "IndexOutOfBoundsException");
        Check.due("new ofPool", Check.answer(hall, h -> h.ofPool(0, 0, 0)), "IndexOutOfBoundsException");
        Check.due("new ofPoolAnew", Check.answer(hall, h -> h.ofPoolAnew(0, 0, 0)), "IndexOutOfBoundsException");
        Check.due("new rank", Check.answer(hall, h -> h.rank(0, 0)), "IndexOutOfBoundsException");
        Check.due("new meets", Check.answer(hall, h -> h.meets(0, 0, 0)), "IndexOutOfBoundsException");
        Check.due("new wins", Check.answer(hall, h -> h.wins(0, 0, 0)), "IndexOutOfBoundsException");
        Check.due("new withdraw", Check.answer(hall, h -> h.withdraw(0, 0)), "IndexOutOfBoundsException");
        Check.due("new tableau", Check.answer(hall, h -> h.tableau(0)), "IndexOutOfBoundsException");
        Check.due("new begin", Check.answer(hall, h -> h.begin(0, 1, 0, 1, -1)), "IndexOutOfBoundsException");
        Check.due("new pool", Check.answer(hall, h -> h.pool(3)), "IllegalArgumentException");
        Check.due("new act", Check.answer(hall, h -> h.act(0, 0, 0)), "IllegalStateException");
        Check.due("new hit", Check.answer(hall, h -> h.hit(0, 0, 0, 0)), "IllegalStateException");
        Check.due("new judge", Check.answer(hall, h -> h.judge()), "IllegalStateException");
        Check.due("new card", Check.answer(hall, h -> h.card(0, 1)), "IllegalStateException");
        Check.due("new clock", Check.answer(hall, h -> h.clock(1)), "IllegalStateException");
        Check.due("new end", Check.answer(hall, h -> h.end()), "IllegalStateException");
        Check.due("the first fencer", hall.fencer(), 0);
    }

    @Says(in = "fencer", value = "Takes a fencer up. Returns the number.")
    private static void fencersAreNumbered() {
        Phrasehall hall = new Phrasehall();
        for (int i = 0; i < 12; i++) {
            int last = i;
            Check.due("begin with one who is not there yet", Check.answer(hall, h -> h.begin(0, last, 0, 1, -1)),
                    "IndexOutOfBoundsException");
            Check.due("fencer()", hall.fencer(), i);
        }
        Check.due("begin of the last two", hall.begin(10, 11, 0, 1, -1), 0);
    }

    @Says(in = "Bouts, phrases", value = "Fencers are numbered from 0, at most 12.")
    @Says(in = "fencer", value = "Throws `IllegalStateException` if there are 12")
    private static void twelveAtMost() {
        Phrasehall hall = Halls.with(11);
        Check.due("the 12th fencer", hall.fencer(), 11);
        Check.due("the 13th fencer", Check.answer(hall, h -> h.fencer()), "IllegalStateException");
        Check.due("the 13th fencer again", Check.answer(hall, h -> h.fencer()), "IllegalStateException");
        Check.due("begin with a 13th", Check.answer(hall, h -> h.begin(0, 12, 0, 1, -1)), "IndexOutOfBoundsException");
        Check.due("a pool with a 13th", Check.answer(hall, h -> h.pool(1 | 1 << 12)), "IllegalArgumentException");
        Check.due("a pool with the 12th", hall.pool(1 | 1 << 11), 0);
        Check.refused("the 13th fencer", Check.STATE, h -> Halls.take(h, 12), h -> h.fencer());
        Check.refused("the 13th fencer, with a bout on the piste", Check.STATE, h -> {
            Halls.take(h, 12);
            h.begin(0, 11, 0, 1, -1);
            h.hit(0, 0, 20, 0);
        }, h -> h.fencer());
    }

    private static void hallsAreApart() {
        Phrasehall one = Halls.with(3);
        Phrasehall other = new Phrasehall();
        Check.due("fencer() of another hall", other.fencer(), 0);
        Check.due("fencer() of the first hall", one.fencer(), 3);
    }
}
