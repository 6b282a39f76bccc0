/** Promises 4 and 5: act and hit put a row together. */
final class PhraseTest {
    private static final int NONE = Phrasehall.NONE;

    public static void main(String[] args) {
        countsBoth();
        takesEdges();
        timesDoNotGoBack();
        twentyFourAtMost();
        startsAnewWhenJudged();
        isEmptyWhenOver();
        isKeptThroughOtherCalls();
        wrongActions();
        wrongContacts();
        withoutABout();
        argumentsComeFirst();
        Check.done();
    }

    private static void onPiste(Phrasehall hall) {
        Halls.take(hall, 2);
        hall.begin(0, 1, Phrasehall.FOIL, 5, NONE);
    }

    @Says(in = "act", value = {"Puts an action behind the phrase.", "Returns how many there are then."})
    @Says(in = "hit", value = {"Puts a contact behind the phrase.", "Returns how many there are then."})
    private static void countsBoth() {
        Phrasehall hall = Halls.bout(Phrasehall.FOIL, 5);
        Check.due("act", hall.act(0, Phrasehall.ATTACK, 5), 1);
        Check.due("hit", hall.hit(1, 5, 0, Phrasehall.GROUND), 2);
        Check.due("act at the same time", hall.act(1, Phrasehall.MISS, 5), 3);
        Check.due("hit later", hall.hit(0, 6, 0, Phrasehall.GROUND), 4);
        Check.due("hit again, not registered", hall.hit(0, 6, 20, Phrasehall.ON), 5);
        Check.due("hit again, not registered", hall.hit(0, 6, 20, Phrasehall.ON), 6);
        Check.due("judge", hall.judge(), 1);
    }

    @Says(in = "act", value = {"`side`: 0 or 1", "`kind`: ATTACK to MISS", "`time`: 0 to 1000000"})
    @Says(in = "hit", value = {"`side`: 0 or 1", "`time`: 0 to 1000000", "`span`: 0 to 1000", "`target`: ON to GROUND"})
    private static void takesEdges() {
        for (int weapon = 0; weapon < 3; weapon++) {
            for (int side = 0; side < 2; side++) {
                Phrasehall hall = Halls.bout(weapon, 5);
                int count = 0;
                for (int kind = Phrasehall.ATTACK; kind <= Phrasehall.MISS; kind++) {
                    count++;
                    Check.due("act at 0, kind " + kind, hall.act(side, kind, 0), count);
                }
                for (int target = Phrasehall.ON; target <= Phrasehall.GROUND; target++) {
                    Check.due("hit at 0, target " + target, hall.hit(side, 0, 0, target), count + 1);
                    Check.due("hit at the last time, target " + target,
                            Halls.bout(weapon, 5).hit(side, 1000000, 1000, target), 1);
                    count++;
                }
                Check.due("act at the last time", hall.act(side, Phrasehall.MISS, 1000000), count + 1);
                Check.due("hit at the last time", hall.hit(side, 1000000, 1000, Phrasehall.ON), count + 2);
                Check.due("its lamp", hall.lamp(side), Phrasehall.ON);
            }
        }
    }

    private static int put(Phrasehall hall, boolean action, int time) {
        return action ? hall.act(0, Phrasehall.LINE, time) : hall.hit(0, time, 0, Phrasehall.GROUND);
    }

    @Says(in = "Bouts, phrases", value = "A phrase is a row of actions and contacts, each at a time in milliseconds that"
            + " is not less than that of the one ahead of it;")
    @Says(in = "act", value = "time is less than that of the one ahead of it,")
    @Says(in = "hit", value = "time is less than that of the one ahead of it,")
    private static void timesDoNotGoBack() {
        for (int row = 0; row < 12; row++) {
            boolean first = row % 2 == 0;
            boolean second = row / 2 % 2 == 0;
            int others = row / 4;
            for (int time : new int[] {1, 50, 1000000}) {
                Phrasehall hall = new Phrasehall();
                startRow(hall, others, first, time);
                Check.due("at the time of the one ahead", put(hall, second, time), others + 2);
                for (int late : new int[] {time - 1, 0}) {
                    Check.refused("less by " + (time - late) + " behind " + (others + 1), Check.STATE,
                            h -> startRow(h, others, first, time), h -> put(h, second, late));
                }
            }
        }
    }

    private static void startRow(Phrasehall hall, int others, boolean action, int time) {
        onPiste(hall);
        for (int i = 0; i < others; i++) {
            put(hall, !action, 0);
        }
        put(hall, action, time);
    }

    private static void fill(Phrasehall hall, int entries, int time) {
        onPiste(hall);
        for (int i = 1; i <= entries; i++) {
            int count = i % 2 == 0 ? hall.act(0, Phrasehall.LINE, time) : hall.hit(0, time, 0, Phrasehall.GROUND);
            Check.due("count", count, i);
        }
    }

    @Says(in = "Bouts, phrases", value = "at most 24.")
    @Says(in = "act", value = "or there are 24")
    @Says(in = "hit", value = "or there are 24")
    private static void twentyFourAtMost() {
        for (int last = 0; last < 2; last++) {
            boolean action = last == 0;
            Phrasehall hall = new Phrasehall();
            fill(hall, 23, 7);
            Check.due("the 24th", put(hall, action, 7), 24);
            Check.refused("the 25th", Check.STATE, h -> fill(h, 24, 7), h -> put(h, action, 7));
            Check.refused("the 25th, too early", Check.STATE, h -> fill(h, 24, 7), h -> put(h, action, 6));
            hall.judge();
            Check.due("the first one when judged", put(hall, action, 7), 1);
        }
        Phrasehall lit = new Phrasehall();
        fill(lit, 23, 7);
        lit.hit(1, 7, 14, Phrasehall.ON);
        Check.due("the 25th", Check.answer(lit, h -> h.hit(0, 7, 14, Phrasehall.ON)), "IllegalStateException");
        Check.due("lamp of the 24th", lit.lamp(1), Phrasehall.ON);
        Check.due("lamp of the 25th", lit.lamp(0), NONE);
        Check.due("judge with 24", lit.judge(), 2);
    }

    @Says(in = "Bouts, phrases", value = "It is judged, and then is empty.")
    private static void startsAnewWhenJudged() {
        Phrasehall hall = Halls.bout(Phrasehall.SABRE, 5);
        hall.act(0, Phrasehall.ATTACK, 900);
        hall.hit(1, 900, 1, Phrasehall.ON);
        hall.judge();
        Check.due("holder of the empty phrase", hall.holder(), NONE);
        Check.due("lamp of the empty phrase", hall.lamp(1), NONE);
        Check.due("act earlier than in the phrase before", hall.act(1, Phrasehall.ATTACK, 0), 1);
        hall.judge();
        Check.due("hit earlier than in the phrase before", hall.hit(1, 0, 0, Phrasehall.ON), 1);
        hall.judge();
        Check.due("judge of an empty one", hall.judge(), 0);
        Check.due("reason of an empty one", hall.reason(), Phrasehall.NO_LAMP);
    }

    @Says(in = "Cards, clocks", value = "When it is over, the phrase is empty.")
    private static void isEmptyWhenOver() {
        Phrasehall ended = withPhrase(Halls.bout(Phrasehall.SABRE, 5));
        ended.end();
        checkNextIsEmpty("end", ended);
        Phrasehall carded = withPhrase(Halls.bout(Phrasehall.SABRE, 1));
        carded.card(0, 2);
        checkNextIsEmpty("a red card", carded);
        Phrasehall black = Halls.bout(Phrasehall.SABRE, 5);
        black.card(0, 3);
        withPhrase(black).card(0, 3);
        checkNextIsEmpty("a black card", black);
        Phrasehall timed = Halls.bout(Phrasehall.SABRE, 5);
        timed.clock(59);
        Halls.give(timed, 1, 1);
        withPhrase(timed).clock(121);
        checkNextIsEmpty("time", timed);
        Phrasehall passive = withPhrase(Halls.bout(Phrasehall.SABRE, 5));
        passive.clock(180);
        checkNextIsEmpty("passivity", passive);
        Phrasehall touched = withPhrase(Halls.bout(Phrasehall.SABRE, 1));
        touched.clock(120);
        checkNextIsEmpty("both touches of passivity", touched);
        Phrasehall judged = withPhrase(Halls.bout(Phrasehall.SABRE, 1));
        Check.due("judge", judged.judge(), 2);
        checkNextIsEmpty("judge", judged);
    }

    private static Phrasehall withPhrase(Phrasehall hall) {
        hall.act(0, Phrasehall.ATTACK, 900);
        hall.hit(1, 900, 1, Phrasehall.ON);
        Check.due("holder on the piste", hall.holder(), 0);
        Check.due("lamp on the piste", hall.lamp(1), Phrasehall.ON);
        return hall;
    }

    private static void checkNextIsEmpty(String by, Phrasehall hall) {
        Check.due("over by " + by, hall.ofBout(0, 2) != NONE ? 1 : 0, 1);
        Check.due("holder, over by " + by, hall.holder(), NONE);
        Check.due("lamp, over by " + by, hall.lamp(1), NONE);
        hall.begin(0, 1, Phrasehall.SABRE, 5, NONE);
        Check.due("holder of the next, over by " + by, hall.holder(), NONE);
        Check.due("lamp of the next, over by " + by, hall.lamp(1), NONE);
        Check.due("act of the next, over by " + by, hall.act(0, Phrasehall.LINE, 1), 1);
    }

    private static void isKeptThroughOtherCalls() {
        Phrasehall hall = Halls.bout(Phrasehall.SABRE, 5);
        hall.act(0, Phrasehall.ATTACK, 9);
        hall.card(0, 1);
        hall.card(0, 2);
        hall.clock(179);
        hall.seed(5);
        hall.pool(3);
        hall.tableau(0);
        Check.due("holder of the phrase that goes on", hall.holder(), 0);
        Check.due("act of the phrase that goes on", hall.act(0, Phrasehall.MISS, 9), 2);
    }

    @Says(in = "act", value = "Throws `IllegalArgumentException` if side, kind or time is out of range")
    private static void wrongActions() {
        int[][] wrong = {{-1, 0, 0}, {2, 0, 0}, {0, -1, 0}, {0, 7, 0}, {0, 0, -1}, {0, 0, 1000001},
            {Integer.MIN_VALUE, 0, 0}, {Integer.MAX_VALUE, 0, 0}, {0, Integer.MIN_VALUE, 0}, {0, Integer.MAX_VALUE, 0},
            {0, 0, Integer.MIN_VALUE}, {0, 0, Integer.MAX_VALUE}};
        for (int[] w : wrong) {
            String what = "act " + w[0] + " " + w[1] + " " + w[2];
            Check.refused(what, Check.ARGUMENT, PhraseTest::onPiste, h -> h.act(w[0], w[1], w[2]));
            Check.refused(what + " without a bout", Check.ARGUMENT, h -> { }, h -> h.act(w[0], w[1], w[2]));
        }
    }

    @Says(in = "hit", value = "Throws `IllegalArgumentException` if side, time, span or target is out of range")
    private static void wrongContacts() {
        int[][] wrong = {{-1, 0, 20, 0}, {2, 0, 20, 0}, {0, -1, 20, 0}, {0, 1000001, 20, 0}, {0, 0, -1, 0},
            {0, 0, 1001, 0}, {0, 0, 20, -1}, {0, 0, 20, 3}, {0, Integer.MIN_VALUE, 20, 0},
            {0, Integer.MAX_VALUE, 20, 0}, {Integer.MIN_VALUE, 0, 20, 0}, {Integer.MAX_VALUE, 0, 20, 0},
            {0, 0, Integer.MIN_VALUE, 0}, {0, 0, Integer.MAX_VALUE, 0}, {0, 0, 20, Integer.MIN_VALUE},
            {0, 0, 20, Integer.MAX_VALUE}};
        for (int[] w : wrong) {
            String what = "hit " + w[0] + " " + w[1] + " " + w[2] + " " + w[3];
            Check.refused(what, Check.ARGUMENT, PhraseTest::onPiste, h -> h.hit(w[0], w[1], w[2], w[3]));
            Check.refused(what + " without a bout", Check.ARGUMENT, h -> { }, h -> h.hit(w[0], w[1], w[2], w[3]));
        }
    }

    @Says(in = "act", value = "Throws `IllegalStateException` if no bout is on the piste,")
    @Says(in = "hit", value = "Throws `IllegalStateException` if no bout is on the piste,")
    private static void withoutABout() {
        Check.refused("act without a bout", Check.STATE, h -> Halls.take(h, 2), h -> h.act(0, 0, 0));
        Check.refused("hit without a bout", Check.STATE, h -> Halls.take(h, 2), h -> h.hit(0, 0, 20, 0));
        Check.refused("act when over", Check.STATE, h -> {
            begunAt(h, 50);
            h.end();
        }, h -> h.act(0, 0, 50));
        Check.refused("hit when over", Check.STATE, h -> {
            begunAt(h, 50);
            h.end();
        }, h -> h.hit(0, 50, 20, 0));
    }

    private static void begunAt(Phrasehall hall, int time) {
        onPiste(hall);
        hall.act(0, Phrasehall.ATTACK, time);
    }

    private static void argumentsComeFirst() {
        Check.refused("act, early and out of range", Check.ARGUMENT, h -> begunAt(h, 50), h -> h.act(1, 7, 49));
        Check.refused("hit, early and out of range", Check.ARGUMENT, h -> begunAt(h, 50), h -> h.hit(1, 49, 1001, 0));
        Check.refused("act, at -1 behind 50", Check.ARGUMENT, h -> begunAt(h, 50), h -> h.act(1, 0, -1));
        Check.refused("hit, at -1 behind 50", Check.ARGUMENT, h -> begunAt(h, 50), h -> h.hit(1, -1, 20, 0));
        Check.refused("act, the 25th and out of range", Check.ARGUMENT, h -> fill(h, 24, 7), h -> h.act(2, 0, 7));
        Check.refused("hit, the 25th and out of range", Check.ARGUMENT, h -> fill(h, 24, 7), h -> h.hit(0, 7, 0, 3));
    }
}
