import java.util.function.Function;

/** Promises 8 and 18: the clock, passivity, time that is over and what is told of a bout. */
final class ClockTest {
    private static final int EPEE = Phrasehall.EPEE, SABRE = Phrasehall.SABRE, NONE = Phrasehall.NONE;

    public static void main(String[] args) {
        counts();
        endsByTime();
        passiveThreeTimes();
        passiveEndsByTouches();
        passiveIsCountedAnew();
        whatBreaksTheQuiet();
        quietThroughADoubleThatGivesNothing();
        passiveAheadOfTime();
        drawAndMoreTime();
        endsInMoreTime();
        passiveInMoreTime();
        passiveThirdAtTheVeryEnd();
        wrongCalls();
        wrongQuestions();
        Check.done();
    }

    private static void told(String what, Phrasehall hall, int bout, int... due) {
        for (int i = 0; i < due.length; i++) {
            Check.due("ofBout " + i + ", " + what, hall.ofBout(bout, i), due[i]);
        }
    }

    private static void counts() {
        Phrasehall hall = Halls.bout(SABRE, 5);
        Check.due("clock(1)", hall.clock(1), 179);
        Check.due("clock(58)", hall.clock(58), 121);
        told("59 seconds", hall, 0, 0, 0, NONE, 59, 0, NONE);
        hall.end();
        told("ended", hall, 0, 0, 0, 0, 59, 0, NONE);
        hall.begin(1, 0, SABRE, 5, NONE);
        Check.due("clock of the next bout", hall.clock(1), 179);
    }

    private static void endsByTime() {
        for (int side = 0; side < 2; side++) {
            Phrasehall hall = Halls.bout(SABRE, 45);
            Halls.singleTouch(hall, side);
            Check.due("clock(179)", hall.clock(179), 1);
            Halls.singleTouch(hall, side);
            Check.due("clock(240) at 179", hall.clock(240), 0);
            Check.due("seconds", hall.ofBout(0, 3), 180);
            Check.due("winner by time", hall.ofBout(0, 2), side);
            Check.due("drawn", hall.ofBout(0, 5), NONE);
        }
    }

    private static void passiveThreeTimes() {
        Phrasehall hall = Halls.bout(SABRE, 5);
        hall.clock(59);
        told("59 quiet ones", hall, 0, 0, 0, NONE, 59, 0, NONE);
        hall.clock(1);
        told("60 quiet ones", hall, 0, 0, 0, NONE, 60, 1, NONE);
        hall.clock(59);
        told("119 quiet ones", hall, 0, 0, 0, NONE, 119, 1, NONE);
        hall.clock(1);
        told("120 quiet ones", hall, 0, 1, 1, NONE, 120, 2, NONE);
        Check.due("119 more", hall.clock(59), 1);
        Check.due("the third time", hall.clock(1), 0);
        told("180 quiet ones", hall, 0, 1, 1, 0, 180, 3, NONE);
        Phrasehall other = Halls.with(2);
        other.begin(1, 0, SABRE, 5, NONE);
        Check.due("all at once", other.clock(240), 0);
        told("the lower number on the side 1", other, 0, 1, 1, 1, 180, 3, NONE);
    }

    private static void passiveEndsByTouches() {
        Phrasehall unlike = Halls.bout(SABRE, 2);
        Halls.singleTouch(unlike, 1);
        Check.due("clock", unlike.clock(240), 0);
        told("both touched at 0 and 1 of 2", unlike, 0, 1, 2, 1, 120, 2, NONE);
        Phrasehall like = Halls.with(2);
        like.begin(1, 0, SABRE, 1, NONE);
        Check.due("clock", like.clock(121), 0);
        told("both touched at 0 of 1", like, 0, 1, 1, 1, 120, 2, NONE);
        Phrasehall third = Halls.bout(SABRE, 9);
        Halls.singleTouch(third, 1);
        third.clock(180);
        told("third time with unlike touches", third, 0, 1, 2, 1, 180, 3, NONE);
    }

    private static void passiveIsCountedAnew() {
        Phrasehall hall = Halls.bout(SABRE, 9);
        hall.clock(59);
        Halls.singleTouch(hall, 0);
        hall.clock(59);
        told("59 behind a touch", hall, 0, 1, 0, NONE, 118, 0, NONE);
        hall.clock(1);
        told("60 behind a touch", hall, 0, 1, 0, NONE, 119, 1, NONE);
        hall.clock(30);
        Halls.singleTouch(hall, 0);
        hall.clock(31);
        told("time is over ahead of the second time", hall, 0, 2, 0, 0, 180, 1, NONE);
    }

    private static void whatBreaksTheQuiet() {
        quiet("a red card", SABRE, 1, h -> h.card(0, 2), 0);
        quiet("a red card of group 3", SABRE, 1, h -> h.card(1, 3), 0);
        quiet("a double", EPEE, 1, Halls::doubleTouch, 0);
        quiet("a yellow card", SABRE, 0, h -> h.card(0, 1), 1);
        quiet("judging that gives nothing", SABRE, 0, h -> h.judge(), 1);
        quiet("actions and contacts", SABRE, 0, h -> h.hit(0, 0, 1, Phrasehall.ON), 1);
    }

    private static void quiet(String what, int weapon, int touched, Function<Phrasehall, Object> call, int passivities) {
        Phrasehall hall = Halls.bout(weapon, 9);
        hall.clock(30);
        call.apply(hall);
        Check.due("touched by " + what, hall.ofBout(0, 0) + hall.ofBout(0, 1) > 0 ? 1 : 0, touched);
        hall.clock(59);
        Check.due("passive 59 behind " + what, hall.ofBout(0, 4), passivities);
        hall.clock(1);
        Check.due("passive 60 behind " + what, hall.ofBout(0, 4), 1);
    }

    private static void quietThroughADoubleThatGivesNothing() {
        Phrasehall none = Halls.bout(EPEE, 1);
        none.clock(30);
        Halls.doubleTouch(none);
        none.clock(30);
        Check.due("passive with a double that gives nothing", none.ofBout(0, 4), 1);
    }

    /** The second passivity and the 180 seconds come together: both touches come ahead of the time. */
    private static void passiveAheadOfTime() {
        Phrasehall ended = secondTimeNextAt180(3);
        Check.due("both reach it at 180", ended.clock(1), 0);
        told("both reach it ahead of a draw", ended, 0, 3, 3, 0, 180, 2, NONE);
        Phrasehall drawn = secondTimeNextAt180(4);
        Check.due("drawn at 180", drawn.clock(1), 60);
        told("both touched, then drawn", drawn, 0, 3, 3, NONE, 180, 2, 0);
        Check.due("one left", drawn.clock(59), 1);
        Check.due("the third time at 240", drawn.clock(1), 0);
        told("third time at 240", drawn, 0, 3, 3, 0, 240, 3, 0);
        Phrasehall third = Halls.bout(SABRE, 5);
        Check.due("the third time at 180", third.clock(180), 0);
        told("third time ahead of a draw", third, 0, 1, 1, 0, 180, 3, NONE);
    }

    /** At 179 seconds, with 2 touches each and 59 quiet seconds behind one passivity. */
    private static Phrasehall secondTimeNextAt180(int to) {
        Phrasehall hall = Halls.bout(EPEE, to);
        hall.clock(60);
        hall.clock(59);
        Halls.doubleTouch(hall);
        hall.clock(1);
        Halls.doubleTouch(hall);
        hall.clock(59);
        told("at 179", hall, 0, 2, 2, NONE, 179, 1, NONE);
        return hall;
    }

    private static Phrasehall drawnAt180(int seed) {
        Phrasehall hall = Halls.bout(EPEE, 9);
        hall.seed(seed);
        hall.clock(30);
        Halls.doubleTouch(hall);
        hall.clock(59);
        Halls.doubleTouch(hall);
        hall.clock(59);
        Halls.doubleTouch(hall);
        hall.clock(31);
        Halls.doubleTouch(hall);
        return hall;
    }

    private static void drawAndMoreTime() {
        for (int seed = 0; seed < 8; seed++) {
            Phrasehall hall = drawnAt180(seed);
            Check.due("one second left", hall.ofBout(0, 3), 179);
            Check.due("60 more", hall.clock(1), 60);
            int drawn = hall.ofBout(0, 5);
            told("drawn", hall, 0, 4, 4, NONE, 180, 0, drawn);
            Check.due("a side is drawn", drawn == 0 || drawn == 1 ? 1 : 0, 1);
            Halls.doubleTouch(hall);
            Check.due("like touches do not end it", hall.ofBout(0, 2), NONE);
            Check.due("one left", hall.clock(59), 1);
            Check.due("none left", hall.clock(1), 0);
            told("the drawn side wins", hall, 0, 5, 5, drawn, 240, 1, drawn);
        }
        Phrasehall through = drawnAt180(0);
        Halls.give(through, 0, 1);
        Halls.give(through, 1, 1);
        through.clock(1);
        Check.due("stops at 240", through.clock(240), 0);
        Check.due("seconds stop at 240", through.ofBout(0, 3), 240);
    }

    private static void endsInMoreTime() {
        for (int side = 0; side < 2; side++) {
            Phrasehall judged = drawnAt180(0);
            judged.clock(11);
            Halls.singleTouch(judged, side);
            told("touch in more time", judged, 0, side == 0 ? 5 : 4, side == 0 ? 4 : 5, side, 190, 0, 0);
            Phrasehall carded = drawnAt180(0);
            carded.clock(11);
            carded.card(1 - side, 2);
            Check.due("red card in more time", carded.ofBout(0, 2), side);
            Phrasehall black = drawnAt180(0);
            black.card(1 - side, 3);
            black.card(side, 2);
            black.clock(1);
            Check.due("drawn", black.ofBout(0, 5), 0);
            Check.due("black card in more time", black.card(1 - side, 3), Phrasehall.BLACK);
            Check.due("winner by a black card", black.ofBout(0, 2), side);
        }
    }

    private static void passiveInMoreTime() {
        Phrasehall hall = Halls.bout(EPEE, 9);
        hall.clock(60);
        hall.clock(59);
        Halls.doubleTouch(hall);
        hall.clock(50);
        Halls.doubleTouch(hall);
        Check.due("drawn at 180", hall.clock(11), 60);
        Check.due("passive the second time at 229", hall.clock(49), 11);
        told("at 229", hall, 0, 3, 3, NONE, 229, 2, 0);
        Phrasehall third = Halls.with(2);
        third.begin(1, 0, EPEE, 9, NONE);
        third.clock(30);
        Halls.doubleTouch(third);
        third.clock(150);
        told("drawn, passive twice", third, 0, 2, 2, NONE, 180, 2, 0);
        Check.due("passive the third time", third.clock(60), 0);
        told("the lower number, not who was drawn", third, 0, 2, 2, 1, 210, 3, 0);
        Phrasehall reached = Halls.bout(EPEE, 3);
        reached.clock(60);
        reached.clock(59);
        Halls.doubleTouch(reached);
        reached.clock(50);
        reached.card(0, 2);
        reached.card(1, 2);
        reached.seed(1000);
        reached.clock(11);
        Check.due("both reach it in more time", reached.clock(60), 0);
        told("at 229, both at 3", reached, 0, 3, 3, 0, 229, 2, reached.ofBout(0, 5));
    }

    /** At the second 240 the third passivity is looked at ahead of who was drawn. */
    private static void passiveThirdAtTheVeryEnd() {
        Phrasehall hall = Halls.with(2);
        hall.begin(1, 0, EPEE, 9, NONE);
        hall.clock(120);
        told("at 120", hall, 0, 1, 1, NONE, 120, 2, NONE);
        hall.clock(59);
        Halls.doubleTouch(hall);
        hall.clock(1);
        Halls.doubleTouch(hall);
        told("at 180", hall, 0, 3, 3, NONE, 180, 2, 0);
        Check.due("one left", hall.clock(59), 1);
        Check.due("the last second", hall.clock(1), 0);
        told("the lower number, not who was drawn", hall, 0, 3, 3, 1, 240, 3, 0);
    }

    private static void onPiste(Phrasehall hall) {
        Halls.take(hall, 2);
        hall.begin(0, 1, SABRE, 5, NONE);
    }

    private static void wrongCalls() {
        for (int seconds : new int[] {0, -1, 241, Integer.MIN_VALUE, Integer.MAX_VALUE}) {
            Check.refused("clock " + seconds, Check.ARGUMENT, ClockTest::onPiste, h -> h.clock(seconds));
            Check.refused("clock " + seconds + " without a bout", Check.ARGUMENT, h -> Halls.take(h, 2),
                    h -> h.clock(seconds));
        }
        Check.refused("clock without a bout", Check.STATE, h -> Halls.take(h, 2), h -> h.clock(1));
    }

    private static void wrongQuestions() {
        int[][] noBout = {{-1, 0}, {1, 0}, {1, 6}, {80, 0}, {Integer.MIN_VALUE, -1}, {Integer.MAX_VALUE, 0}};
        for (int[] w : noBout) {
            Check.refused("ofBout " + w[0] + " " + w[1], Check.INDEX, ClockTest::onPiste, h -> h.ofBout(w[0], w[1]));
        }
        for (int what : new int[] {-1, 6, Integer.MIN_VALUE, Integer.MAX_VALUE}) {
            Check.refused("ofBout 0 " + what, Check.ARGUMENT, ClockTest::onPiste, h -> h.ofBout(0, what));
        }
    }
}
