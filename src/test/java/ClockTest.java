import java.util.function.Function;

/** Promises 8 and 18: the clock, passivity, time that is over and what is told of a bout. */
final class ClockTest {
    private static final int EPEE = Phrasehall.EPEE, SABRE = Phrasehall.SABRE, NONE = Phrasehall.NONE;

    public static void main(String[] args) {
        counts();
        secondsFromLeastToMost();
        oneByOne();
        endsByTime();
        passiveThreeTimes();
        passiveEndsByTouches();
        passiveIsCountedAnew();
        whatBreaksTheQuiet();
        quietThroughADoubleThatGivesNothing();
        passiveAheadOfTime();
        drawAndMoreTime();
        drawnSideWins();
        endsInMoreTime();
        passiveInMoreTime();
        passiveThirdAtTheVeryEnd();
        wrongCalls();
        withoutABout();
        tellsOfABout();
        tellsOfBoutsThereAre();
        wrongQuestions();
        Check.done();
    }

    private static void told(String what, Phrasehall hall, int bout, int... due) {
        for (int i = 0; i < due.length; i++) {
            Check.due("ofBout " + i + ", " + what, hall.ofBout(bout, i), due[i]);
        }
    }

    @Says(in = "clock", value = "Returns how many of its seconds are left then, 0 if it is over.")
    private static void counts() {
        Phrasehall hall = Halls.bout(SABRE, 5);
        Check.due("clock(1)", hall.clock(1), 179);
        Check.due("clock(58)", hall.clock(58), 121);
        told("59 seconds", hall, 0, 0, 0, NONE, 59, 0, NONE);
        hall.end();
        told("ended", hall, 0, 0, 0, 0, 59, 0, NONE);
        hall.begin(1, 0, SABRE, 5, NONE);
        Check.due("clock of the next bout", hall.clock(1), 179);
    }

    @Says(in = "clock", value = "`seconds`: 1 to 240")
    private static void secondsFromLeastToMost() {
        for (int seconds : new int[] {1, 2, 59, 179, 180, 239, 240}) {
            Phrasehall hall = Halls.bout(SABRE, 45);
            Halls.give(hall, 1, 1);
            Check.due("clock(" + seconds + ")", hall.clock(seconds), Math.max(0, 180 - seconds));
            Check.due("seconds of clock(" + seconds + ")", hall.ofBout(0, 3), Math.min(180, seconds));
            Check.due("winner of clock(" + seconds + ")", hall.ofBout(0, 2), seconds < 180 ? NONE : 1);
        }
    }

    @Says(in = "clock", value = "Lets seconds of the bout go by, one by one, as long as it is not over.")
    private static void oneByOne() {
        for (int first = 0; first < 2; first++) {
            Phrasehall atOnce = Halls.with(2);
            Phrasehall oneByOne = Halls.with(2);
            for (Phrasehall hall : new Phrasehall[] {atOnce, oneByOne}) {
                hall.begin(1, 0, EPEE, 9, NONE);
                hall.clock(1 + 29 * first);
                Halls.doubleTouch(hall);
            }
            int left = 1;
            int steps = 0;
            while (left > 0 && steps < 240) {
                left = oneByOne.clock(1);
                steps++;
            }
            Check.due("clock(240) at once", atOnce.clock(240), 0);
            for (int what = 0; what < 6; what++) {
                Check.due("ofBout " + what + " at once", atOnce.ofBout(0, what), oneByOne.ofBout(0, what));
            }
            Check.due("steps", steps + 1 + 29 * first, atOnce.ofBout(0, 3));
        }
    }

    @Says(in = "Cards, clocks", value = "A bout has 180 seconds. When so many went by, it is over, if the touches are unlike;")
    private static void endsByTime() {
        for (int side = 0; side < 2; side++) {
            Phrasehall hall = Halls.bout(SABRE, 45);
            Halls.singleTouch(hall, side);
            Check.due("clock(179)", hall.clock(179), 1);
            Check.due("on the piste at 179", hall.ofBout(0, 2), NONE);
            Halls.singleTouch(hall, side);
            Check.due("clock(240) at 179", hall.clock(240), 0);
            Check.due("seconds", hall.ofBout(0, 3), 180);
            Check.due("winner by time", hall.ofBout(0, 2), side);
            Check.due("drawn", hall.ofBout(0, 5), NONE);
        }
    }

    @Says(in = "Cards, clocks", value = {"the bout is passive once more,", "the second time both sides get a touch,"})
    private static void passiveThreeTimes() {
        Phrasehall hall = Halls.bout(SABRE, 5);
        hall.clock(59);
        told("59 quiet ones", hall, 0, 0, 0, NONE, 59, 0, NONE);
        hall.clock(1);
        told("60 quiet ones", hall, 0, 0, 0, NONE, 60, 1, NONE);
        hall.clock(59);
        told("119 quiet ones", hall, 0, 0, 0, NONE, 119, 1, NONE);
        hall.clock(1);
        told("120 quiet ones", hall, 0, 1, 1, NONE, 120, 2, NONE);
        Check.due("119 more", hall.clock(59), 1);
        Check.due("the third time", hall.clock(1), 0);
        told("180 quiet ones", hall, 0, 1, 1, 0, 180, 3, NONE);
        Phrasehall other = Halls.with(2);
        other.begin(1, 0, SABRE, 5, NONE);
        Check.due("all at once", other.clock(240), 0);
        told("the lower number on the side 1", other, 0, 1, 1, 1, 180, 3, NONE);
    }

    @Says(in = "Cards, clocks", value = "the third time it is over, whether touches are like or not.")
    private static void passiveEndsByTouches() {
        Phrasehall unlike = Halls.bout(SABRE, 2);
        Halls.singleTouch(unlike, 1);
        Check.due("clock", unlike.clock(240), 0);
        told("both touched at 0 and 1 of 2", unlike, 0, 1, 2, 1, 120, 2, NONE);
        Phrasehall like = Halls.with(2);
        like.begin(1, 0, SABRE, 1, NONE);
        Check.due("clock", like.clock(121), 0);
        told("both touched at 0 of 1", like, 0, 1, 1, 1, 120, 2, NONE);
        Phrasehall third = Halls.bout(SABRE, 9);
        Halls.singleTouch(third, 1);
        Check.due("ahead of the third time with unlike touches", third.clock(179), 1);
        third.clock(1);
        told("third time with unlike touches", third, 0, 1, 2, 1, 180, 3, NONE);
        Phrasehall early = Halls.with(2);
        early.begin(1, 0, EPEE, 9, NONE);
        early.clock(121);
        Halls.doubleTouch(early);
        early.clock(58);
        Halls.doubleTouch(early);
        early.clock(59);
        told("one second ahead of the third time", early, 0, 3, 3, NONE, 238, 2, 0);
        early.clock(1);
        told("the third time with like touches", early, 0, 3, 3, 1, 239, 3, 0);
    }

    @Says(in = "Cards, clocks", value = "counted anew from then, and from each time that it is so,")
    private static void passiveIsCountedAnew() {
        Phrasehall hall = Halls.bout(SABRE, 9);
        hall.clock(59);
        Halls.singleTouch(hall, 0);
        hall.clock(59);
        told("59 behind a touch", hall, 0, 1, 0, NONE, 118, 0, NONE);
        hall.clock(1);
        told("60 behind a touch", hall, 0, 1, 0, NONE, 119, 1, NONE);
        hall.clock(30);
        Halls.singleTouch(hall, 0);
        hall.clock(31);
        told("time is over ahead of the second time", hall, 0, 2, 0, 0, 180, 1, NONE);
    }

    @Says(in = "Cards, clocks", value = "When 60 seconds went by without a touch given by judging or by a card,")
    private static void whatBreaksTheQuiet() {
        quiet("a red card", SABRE, 1, h -> h.card(0, 2), 0);
        quiet("a red card of group 3", SABRE, 1, h -> h.card(1, 3), 0);
        quiet("a red card of group 1", SABRE, 1, h -> h.card(0, 1) + h.card(0, 1), 0);
        quiet("a single touch", SABRE, 1, h -> Halls.singleTouch(h, 1), 0);
        quiet("judging of one who is off", Phrasehall.FOIL, 0, h -> h.hit(0, 0, 20, Phrasehall.OFF) + h.judge(), 1);
        quiet("a double", EPEE, 1, Halls::doubleTouch, 0);
        quiet("a yellow card", SABRE, 0, h -> h.card(0, 1), 1);
        quiet("judging that gives nothing", SABRE, 0, h -> h.judge(), 1);
        quiet("actions and contacts", SABRE, 0, h -> h.hit(0, 0, 1, Phrasehall.ON), 1);
    }

    private static void quiet(String what, int weapon, int touched, Function<Phrasehall, Object> call, int passivities) {
        Phrasehall hall = Halls.bout(weapon, 9);
        hall.clock(30);
        call.apply(hall);
        Check.due("touched by " + what, hall.ofBout(0, 0) + hall.ofBout(0, 1) > 0 ? 1 : 0, touched);
        hall.clock(59);
        Check.due("passive 59 behind " + what, hall.ofBout(0, 4), passivities);
        hall.clock(1);
        Check.due("passive 60 behind " + what, hall.ofBout(0, 4), 1);
    }

    private static void quietThroughADoubleThatGivesNothing() {
        Phrasehall none = Halls.bout(EPEE, 1);
        none.clock(30);
        Halls.doubleTouch(none);
        none.clock(30);
        Check.due("passive with a double that gives nothing", none.ofBout(0, 4), 1);
    }

    /** The second passivity and the 180 seconds come together: both touches come ahead of the time. */
    @Says(in = "Cards, clocks", value = "which is looked at ahead of its time in each second:")
    private static void passiveAheadOfTime() {
        Phrasehall ended = secondTimeNextAt180(3);
        Check.due("both reach it at 180", ended.clock(1), 0);
        told("both reach it ahead of a draw", ended, 0, 3, 3, 0, 180, 2, NONE);
        Phrasehall drawn = secondTimeNextAt180(4);
        Check.due("drawn at 180", drawn.clock(1), 60);
        told("both touched, then drawn", drawn, 0, 3, 3, NONE, 180, 2, 0);
        Check.due("one left", drawn.clock(59), 1);
        Check.due("the third time at 240", drawn.clock(1), 0);
        told("third time at 240", drawn, 0, 3, 3, 0, 240, 3, 0);
        Phrasehall third = Halls.bout(SABRE, 5);
        Check.due("the third time at 180", third.clock(180), 0);
        told("third time ahead of a draw", third, 0, 1, 1, 0, 180, 3, NONE);
    }

    /** At 179 seconds, with 2 touches each and 59 quiet seconds behind one passivity. */
    private static Phrasehall secondTimeNextAt180(int to) {
        Phrasehall hall = Halls.bout(EPEE, to);
        hall.clock(60);
        hall.clock(59);
        Halls.doubleTouch(hall);
        hall.clock(1);
        Halls.doubleTouch(hall);
        hall.clock(59);
        told("at 179", hall, 0, 2, 2, NONE, 179, 1, NONE);
        return hall;
    }

    private static Phrasehall drawnAt180(int seed) {
        Phrasehall hall = Halls.bout(EPEE, 9);
        hall.seed(seed);
        hall.clock(30);
        Halls.doubleTouch(hall);
        hall.clock(59);
        Halls.doubleTouch(hall);
        hall.clock(59);
        Halls.doubleTouch(hall);
        hall.clock(31);
        Halls.doubleTouch(hall);
        return hall;
    }

    @Says(in = "Cards, clocks", value = "otherwise a side is drawn, and there are 60 more;")
    private static void drawAndMoreTime() {
        for (int seed = 0; seed < 8; seed++) {
            Phrasehall hall = drawnAt180(seed);
            told("one second left", hall, 0, 4, 4, NONE, 179, 0, NONE);
            Check.due("60 more", hall.clock(1), 60);
            int drawn = hall.ofBout(0, 5);
            told("drawn", hall, 0, 4, 4, NONE, 180, 0, drawn);
            Check.due("a side is drawn", drawn == 0 || drawn == 1 ? 1 : 0, 1);
            Halls.doubleTouch(hall);
            Check.due("like touches do not end it", hall.ofBout(0, 2), NONE);
            Check.due("one left", hall.clock(59), 1);
            Check.due("none left", hall.clock(1), 0);
            told("the drawn side wins", hall, 0, 5, 5, drawn, 240, 1, drawn);
        }
        Phrasehall through = drawnAt180(0);
        Halls.give(through, 0, 1);
        Halls.give(through, 1, 1);
        through.clock(1);
        Check.due("stops at 240", through.clock(240), 0);
        Check.due("seconds stop at 240", through.ofBout(0, 3), 240);
    }

    /** Whoever has the lower number: the seed 0 draws the side 0, and 3 the side 1. */
    @Says(in = "Cards, clocks", value = "when those went by, the side that was drawn wins.")
    private static void drawnSideWins() {
        for (int left = 0; left < 2; left++) {
            for (int seed = 0; seed <= 3; seed += 3) {
                Phrasehall hall = Halls.with(2);
                hall.begin(left, 1 - left, EPEE, 9, NONE);
                hall.seed(seed);
                hall.clock(121);
                Halls.doubleTouch(hall);
                Check.due("drawn at 180", hall.clock(59), 60);
                Halls.doubleTouch(hall);
                Check.due("at 239", hall.clock(59), 1);
                told("at 239", hall, 0, 3, 3, NONE, 239, 2, seed / 3);
                Halls.doubleTouch(hall);
                hall.act(1, Phrasehall.ATTACK, 5);
                Check.due("at 240", hall.clock(1), 0);
                told("at 240", hall, 0, 4, 4, seed / 3, 240, 2, seed / 3);
                Check.due("the phrase is empty", hall.holder(), NONE);
                Check.due("no bout then", Check.answer(hall, h -> h.clock(1)), "IllegalStateException");
            }
        }
    }

    @Says(in = "Cards, clocks", value = "the first touch that makes them unlike ends it then;")
    private static void endsInMoreTime() {
        for (int side = 0; side < 2; side++) {
            Phrasehall judged = drawnAt180(0);
            judged.clock(11);
            Halls.singleTouch(judged, side);
            told("touch in more time", judged, 0, side == 0 ? 5 : 4, side == 0 ? 4 : 5, side, 190, 0, 0);
            Phrasehall carded = drawnAt180(0);
            carded.clock(11);
            carded.card(1 - side, 2);
            Check.due("red card in more time", carded.ofBout(0, 2), side);
            Phrasehall black = drawnAt180(0);
            black.card(1 - side, 3);
            black.card(side, 2);
            black.clock(1);
            Check.due("drawn", black.ofBout(0, 5), 0);
            Check.due("black card in more time", black.card(1 - side, 3), Phrasehall.BLACK);
            Check.due("winner by a black card", black.ofBout(0, 2), side);
        }
    }

    private static void passiveInMoreTime() {
        Phrasehall hall = Halls.bout(EPEE, 9);
        hall.clock(60);
        hall.clock(59);
        Halls.doubleTouch(hall);
        hall.clock(50);
        Halls.doubleTouch(hall);
        Check.due("drawn at 180", hall.clock(11), 60);
        Check.due("passive the second time at 229", hall.clock(49), 11);
        told("at 229", hall, 0, 3, 3, NONE, 229, 2, 0);
        Phrasehall third = Halls.with(2);
        third.begin(1, 0, EPEE, 9, NONE);
        third.clock(30);
        Halls.doubleTouch(third);
        third.clock(150);
        told("drawn, passive twice", third, 0, 2, 2, NONE, 180, 2, 0);
        Check.due("passive the third time", third.clock(60), 0);
        told("the lower number, not who was drawn", third, 0, 2, 2, 1, 210, 3, 0);
        Phrasehall reached = Halls.bout(EPEE, 3);
        reached.clock(60);
        reached.clock(59);
        Halls.doubleTouch(reached);
        reached.clock(50);
        reached.card(0, 2);
        reached.card(1, 2);
        reached.seed(1000);
        reached.clock(11);
        Check.due("both reach it in more time", reached.clock(60), 0);
        told("at 229, both at 3", reached, 0, 3, 3, 0, 229, 2, reached.ofBout(0, 5));
    }

    /** At the second 240 the third passivity is looked at ahead of who was drawn. */
    private static void passiveThirdAtTheVeryEnd() {
        Phrasehall hall = Halls.with(2);
        hall.begin(1, 0, EPEE, 9, NONE);
        hall.clock(120);
        told("at 120", hall, 0, 1, 1, NONE, 120, 2, NONE);
        hall.clock(59);
        Halls.doubleTouch(hall);
        hall.clock(1);
        Halls.doubleTouch(hall);
        told("at 180", hall, 0, 3, 3, NONE, 180, 2, 0);
        Check.due("one left", hall.clock(59), 1);
        Check.due("the last second", hall.clock(1), 0);
        told("the lower number, not who was drawn", hall, 0, 3, 3, 1, 240, 3, 0);
    }

    private static void onPiste(Phrasehall hall) {
        Halls.take(hall, 2);
        hall.begin(0, 1, SABRE, 5, NONE);
    }

    @Says(in = "clock", value = "Throws `IllegalArgumentException` if seconds is out of range")
    private static void wrongCalls() {
        for (int seconds : new int[] {0, -1, 241, Integer.MIN_VALUE, Integer.MAX_VALUE}) {
            Check.refused("clock " + seconds, Check.ARGUMENT, ClockTest::onPiste, h -> h.clock(seconds));
            Check.refused("clock " + seconds + " without a bout", Check.ARGUMENT, h -> Halls.take(h, 2),
                    h -> h.clock(seconds));
        }
    }

    @Says(in = "clock", value = "Throws `IllegalStateException` if no bout is on the piste")
    private static void withoutABout() {
        Check.refused("clock in a new hall", Check.STATE, h -> { }, h -> h.clock(240));
        Check.refused("clock without a bout", Check.STATE, h -> Halls.take(h, 2), h -> h.clock(1));
        Check.refused("clock when over", Check.STATE, h -> {
            onPiste(h);
            h.clock(180);
        }, h -> h.clock(1));
        Check.refused("clock when ended", Check.STATE, h -> {
            onPiste(h);
            h.clock(59);
            h.end();
        }, h -> h.clock(1));
    }

    @Says(in = "ofBout", value = {"Tells of a bout.", "Returns as told.",
        "`what`: 0 and 1 the touches of the sides, 2 the side that won, NONE if it is on the piste, 3 how many seconds went"
            + " by, 4 how many times it was passive, 5 the side that was drawn, NONE without"})
    private static void tellsOfABout() {
        Phrasehall hall = Halls.with(2);
        hall.seed(3);
        hall.begin(0, 1, EPEE, 9, NONE);
        told("new", hall, 0, 0, 0, NONE, 0, 0, NONE);
        hall.clock(121);
        told("passive twice", hall, 0, 1, 1, NONE, 121, 2, NONE);
        Halls.doubleTouch(hall);
        hall.clock(59);
        told("drawn", hall, 0, 2, 2, NONE, 180, 2, 1);
        Halls.doubleTouch(hall);
        hall.clock(7);
        Halls.singleTouch(hall, 0);
        told("over", hall, 0, 4, 3, 0, 187, 2, 1);
        hall.begin(1, 0, SABRE, 2, NONE);
        Halls.give(hall, 1, 2);
        told("the next", hall, 1, 0, 2, 1, 0, 0, NONE);
        told("the one before", hall, 0, 4, 3, 0, 187, 2, 1);
    }

    @Says(in = "ofBout", value = {"`bout`: the number of a bout",
        "Throws `IndexOutOfBoundsException` if there is no such bout"})
    private static void tellsOfBoutsThereAre() {
        Check.refused("ofBout of a new hall", Check.INDEX, h -> { }, h -> h.ofBout(0, 0));
        Phrasehall hall = new Phrasehall();
        onPiste(hall);
        hall.end();
        Check.due("the last one", hall.ofBout(0, 2), 0);
        Check.due("the one that will be", Check.answer(hall, h -> h.ofBout(1, 2)), "IndexOutOfBoundsException");
        hall.begin(0, 1, SABRE, 5, NONE);
        Check.due("the one that was to be", hall.ofBout(1, 2), NONE);
        int[][] noBout = {{-1, 0}, {1, 0}, {1, 6}, {80, 0}, {Integer.MIN_VALUE, -1}, {Integer.MAX_VALUE, 0}};
        for (int[] w : noBout) {
            Check.refused("ofBout " + w[0] + " " + w[1], Check.INDEX, ClockTest::onPiste, h -> h.ofBout(w[0], w[1]));
        }
    }

    @Says(in = "ofBout", value = "Throws `IllegalArgumentException` if what is out of range")
    private static void wrongQuestions() {
        for (int what : new int[] {-1, 6, Integer.MIN_VALUE, Integer.MAX_VALUE}) {
            Check.refused("ofBout 0 " + what, Check.ARGUMENT, ClockTest::onPiste, h -> h.ofBout(0, what));
        }
    }
}
