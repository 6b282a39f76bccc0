/** Promises 1 and 2: a new hall, and fencers. */
final class FencerTest {
    public static void main(String[] args) {
        newHallIsEmpty();
        fencersAreNumbered();
        hallsAreApart();
        Check.refused("the 13th fencer", Check.STATE, h -> Halls.take(h, 12), h -> h.fencer());
        Check.done();
    }

    private static void newHallIsEmpty() {
        Phrasehall hall = new Phrasehall();
        Check.due("new holder()", hall.holder(), -1);
        Check.due("new reason()", hall.reason(), -1);
        Check.due("new lamp(0)", hall.lamp(0), -1);
        Check.due("new lamp(1)", hall.lamp(1), -1);
        Check.due("new ofBout", Check.answer(hall, h -> h.ofBout(0, 0)), "IndexOutOfBoundsException");
        Check.due("new ofPool", Check.answer(hall, h -> h.ofPool(0, 0, 0)), "IndexOutOfBoundsException");
        Check.due("new rank", Check.answer(hall, h -> h.rank(0, 0)), "IndexOutOfBoundsException");
        Check.due("new meets", Check.answer(hall, h -> h.meets(0, 0, 0)), "IndexOutOfBoundsException");
        Check.due("new begin", Check.answer(hall, h -> h.begin(0, 1, 0, 1, -1)), "IndexOutOfBoundsException");
        Check.due("new pool", Check.answer(hall, h -> h.pool(3)), "IllegalArgumentException");
    }

    private static void fencersAreNumbered() {
        Phrasehall hall = new Phrasehall();
        for (int i = 0; i < 12; i++) {
            Check.due("fencer()", hall.fencer(), i);
        }
        Check.due("begin of the last two", hall.begin(10, 11, 0, 1, -1), 0);
    }

    private static void hallsAreApart() {
        Phrasehall one = Halls.with(3);
        Phrasehall other = new Phrasehall();
        Check.due("fencer() of another hall", other.fencer(), 0);
        Check.due("fencer() of the first hall", one.fencer(), 3);
    }
}
