/** Promises 9 and 10: a bout that is ended, and the seed of the draw. */
final class EndTest {
    private static final int EPEE = Phrasehall.EPEE, SABRE = Phrasehall.SABRE, NONE = Phrasehall.NONE;

    public static void main(String[] args) {
        byTouches();
        likeTouches();
        inMoreTime();
        draws();
        drawsGoOnThroughBouts();
        onlyADrawMovesTheSeed();
        withoutABout();
        wrongSeeds();
        Check.done();
    }

    @Says(in = "end", value = "Throws `IllegalStateException` if no bout is on the piste")
    private static void withoutABout() {
        Check.refused("end in a new hall", Check.STATE, h -> { }, h -> h.end());
        Check.refused("end without a bout", Check.STATE, h -> Halls.take(h, 2), h -> h.end());
        Check.refused("end when ended", Check.STATE, h -> {
            Halls.take(h, 2);
            h.pool(3);
            h.begin(0, 1, SABRE, 5, 0);
            h.end();
        }, h -> h.end());
        Check.refused("end when over", Check.STATE, h -> {
            Halls.take(h, 2);
            h.pool(3);
            h.begin(0, 1, SABRE, 1, 0);
            Halls.singleTouch(h, 1);
        }, h -> h.end());
    }

    @Says(in = "seed", value = "Throws `IllegalArgumentException` if seed is out of range")
    private static void wrongSeeds() {
        for (int seed : new int[] {-1, -2, -65536, Integer.MIN_VALUE}) {
            Check.refused("seed " + seed, Check.ARGUMENT, h -> {
                Halls.take(h, 2);
                h.seed(99);
            }, h -> {
                h.seed(seed);
                return 0;
            });
            Check.refused("seed " + seed + " of a new hall", Check.ARGUMENT, h -> { }, h -> {
                h.seed(seed);
                return 0;
            });
        }
    }

    @Says(in = "end", value = {"Ends the bout, whatever its touches; the phrase is empty then.",
        "Returns the side that wins."})
    @Says(in = "Cards, clocks", value = "Who has more touches wins,")
    private static void byTouches() {
        for (int side = 0; side < 2; side++) {
            Phrasehall hall = Halls.bout(SABRE, 9);
            Halls.give(hall, side, 2);
            Halls.give(hall, 1 - side, 1);
            hall.act(0, Phrasehall.ATTACK, 7);
            Check.due("end", hall.end(), side);
            Check.due("the phrase is empty", hall.holder(), NONE);
            Check.due("winner", hall.ofBout(0, 2), side);
            Check.due("no bout then", Check.answer(hall, h -> h.judge()), "IllegalStateException");
        }
    }

    @Says(in = "Cards, clocks", value = "of like ones the fencer with the lower number.")
    private static void likeTouches() {
        Phrasehall hall = Halls.with(12);
        hall.begin(3, 2, SABRE, 9, NONE);
        Check.due("end, the lower number on the side 1", hall.end(), 1);
        hall.begin(10, 11, SABRE, 9, NONE);
        Halls.give(hall, 0, 1);
        Halls.give(hall, 1, 1);
        Check.due("end, the lower number on the side 0", hall.end(), 0);
    }

    /** Who was drawn wins only when the time went by. */
    @Says(in = "Cards, clocks", value = "but for what is told above;")
    private static void inMoreTime() {
        Phrasehall hall = Halls.with(2);
        hall.begin(1, 0, EPEE, 45, NONE);
        Check.due("drawn", drawnSide(hall, 0), 0);
        Check.due("end in more time", hall.end(), 1);
    }

    /** Lets a bout on the piste reach its draw, and tells who was drawn. */
    private static int drawnSide(Phrasehall hall, int bout) {
        hall.clock(50);
        Halls.doubleTouch(hall);
        hall.clock(50);
        Halls.doubleTouch(hall);
        hall.clock(50);
        Halls.doubleTouch(hall);
        Check.due("60 more", hall.clock(30), 60);
        return hall.ofBout(bout, 5);
    }

    private static int drawBySeed(int seed) {
        Phrasehall hall = Halls.bout(EPEE, 45);
        if (seed != 0) {
            hall.seed(seed);
        }
        return drawnSide(hall, 0);
    }

    @Says(in = "Cards, clocks", value = "The draw of a side is 0 or 1: the seed, become 1103515245 times it and 12345, modulo"
            + " 2 to the power of 31, divided by 65536, rounded down, modulo 2;")
    @Says(in = "seed", value = {"Sets the seed.", "`seed`: 0 to 2147483647"})
    private static void draws() {
        // worked out by hand: 7 gives 1282168116, divided 19564; 8 gives 238199713, divided 3634
        Check.due("draw by 0: 12345 divided is 0", drawBySeed(0), 0);
        Check.due("draw by 7", drawBySeed(7), 0);
        Check.due("draw by 8", drawBySeed(8), 0);
        Check.due("draw by 1: 1103527590 divided is 16838", drawBySeed(1), 0);
        // and 3310558080 less 2147483648 is 1163074432, divided 17747
        Check.due("draw by 3", drawBySeed(3), 1);
        int ones = 0;
        int[] seeds = {2, 3, 5, 11, 12345, 65535, 65536, 2147483646, Integer.MAX_VALUE};
        for (int seed : seeds) {
            int due = drawByTheWords(seed);
            Check.due("draw by " + seed, drawBySeed(seed), due);
            ones += due;
        }
        Check.due("both sides are drawn", ones > 0 && ones < seeds.length ? 1 : 0, 1);
    }

    private static java.math.BigInteger nextSeed(long seed) {
        return java.math.BigInteger.valueOf(1103515245L).multiply(java.math.BigInteger.valueOf(seed))
                .add(java.math.BigInteger.valueOf(12345)).mod(java.math.BigInteger.valueOf(2).pow(31));
    }

    private static int drawByTheWords(long seed) {
        return nextSeed(seed).divide(java.math.BigInteger.valueOf(65536)).mod(java.math.BigInteger.TWO).intValue();
    }

    @Says(in = "Cards, clocks", value = "the seed is 0 at first.")
    private static void drawsGoOnThroughBouts() {
        Phrasehall hall = Halls.with(2);
        long seed = 0;
        for (int bout = 0; bout < 20; bout++) {
            hall.begin(0, 1, EPEE, 45, NONE);
            Check.due("draw " + bout, drawnSide(hall, bout), drawByTheWords(seed));
            seed = nextSeed(seed).longValue();
            hall.end();
        }
        hall.seed(0);
        hall.begin(0, 1, EPEE, 45, NONE);
        Check.due("draw by the seed set back", drawnSide(hall, 20), 0);
    }

    /** The seed 1 draws 0, 0 and 1: bouts that end without a draw leave it as it is. */
    private static void onlyADrawMovesTheSeed() {
        int[] due = {0, 0, 1};
        Phrasehall hall = Halls.with(2);
        hall.seed(1);
        for (int bout = 0; bout < 6; bout += 2) {
            hall.begin(0, 1, SABRE, 9, NONE);
            Check.due("passive three times", hall.clock(240), 0);
            Check.due("nobody is drawn", hall.ofBout(bout, 5), NONE);
            hall.begin(0, 1, EPEE, 45, NONE);
            Check.due("draw behind it", drawnSide(hall, bout + 1), due[bout / 2]);
            Halls.singleTouch(hall, 1);
        }
    }
}
