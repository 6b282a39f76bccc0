/** Promises 4 and 5: act and hit put a row together. */
final class PhraseTest {
    public static void main(String[] args) {
        countsBoth();
        takesEdges();
        startsAnewWhenJudged();
        isEmptyWhenOver();
        isKeptThroughOtherCalls();
        isFull();
        wrongActions();
        wrongContacts();
        wrongStates();
        Check.done();
    }

    private static void onPiste(Phrasehall hall) {
        Halls.take(hall, 2);
        hall.begin(0, 1, Phrasehall.FOIL, 5, Phrasehall.NONE);
    }

    private static void countsBoth() {
        Phrasehall hall = Halls.bout(Phrasehall.FOIL, 5);
        Check.due("act", hall.act(0, Phrasehall.ATTACK, 5), 1);
        Check.due("hit", hall.hit(1, 5, 0, Phrasehall.GROUND), 2);
        Check.due("act at the same time", hall.act(1, Phrasehall.MISS, 5), 3);
        Check.due("hit later", hall.hit(0, 6, 0, Phrasehall.GROUND), 4);
        Check.due("judge", hall.judge(), 0);
    }

    private static void takesEdges() {
        Phrasehall hall = Halls.bout(Phrasehall.FOIL, 5);
        Check.due("act at 0", hall.act(0, Phrasehall.ATTACK, 0), 1);
        Check.due("hit at 0", hall.hit(1, 0, 0, Phrasehall.ON), 2);
        Check.due("act at the last time", hall.act(1, Phrasehall.MISS, 1000000), 3);
        Check.due("hit at the last time", hall.hit(1, 1000000, 1000, Phrasehall.GROUND), 4);
    }

    private static void startsAnewWhenJudged() {
        Phrasehall hall = Halls.bout(Phrasehall.SABRE, 5);
        hall.act(0, Phrasehall.ATTACK, 900);
        hall.judge();
        Check.due("holder of the empty phrase", hall.holder(), -1);
        Check.due("act earlier than in the phrase before", hall.act(1, Phrasehall.ATTACK, 0), 1);
    }

    private static void isEmptyWhenOver() {
        Phrasehall ended = Halls.bout(Phrasehall.SABRE, 5);
        ended.act(0, Phrasehall.ATTACK, 900);
        ended.hit(1, 900, 1, Phrasehall.ON);
        ended.end();
        checkNextIsEmpty("end", ended);
        Phrasehall carded = Halls.bout(Phrasehall.SABRE, 1);
        carded.act(0, Phrasehall.ATTACK, 900);
        carded.hit(1, 900, 1, Phrasehall.ON);
        carded.card(0, 2);
        checkNextIsEmpty("card", carded);
        Phrasehall timed = Halls.bout(Phrasehall.SABRE, 5);
        timed.act(0, Phrasehall.ATTACK, 900);
        timed.hit(1, 900, 1, Phrasehall.ON);
        timed.clock(180);
        checkNextIsEmpty("clock", timed);
    }

    private static void checkNextIsEmpty(String by, Phrasehall hall) {
        Check.due("over by " + by, hall.ofBout(0, 2) != -1 ? 1 : 0, 1);
        Check.due("holder, over by " + by, hall.holder(), -1);
        Check.due("lamp, over by " + by, hall.lamp(1), -1);
        hall.begin(0, 1, Phrasehall.SABRE, 5, Phrasehall.NONE);
        Check.due("holder of the next, over by " + by, hall.holder(), -1);
        Check.due("lamp of the next, over by " + by, hall.lamp(1), -1);
        Check.due("act of the next, over by " + by, hall.act(0, Phrasehall.LINE, 1), 1);
    }

    private static void isKeptThroughOtherCalls() {
        Phrasehall hall = Halls.bout(Phrasehall.SABRE, 5);
        hall.act(0, Phrasehall.ATTACK, 9);
        hall.card(0, 1);
        hall.card(0, 2);
        hall.clock(179);
        Check.due("holder of the phrase that goes on", hall.holder(), 0);
        Check.due("act of the phrase that goes on", hall.act(0, Phrasehall.MISS, 9), 2);
    }

    private static void fill(Phrasehall hall) {
        onPiste(hall);
        for (int i = 1; i <= 24; i++) {
            int count = i % 2 == 0 ? hall.act(0, Phrasehall.LINE, 7) : hall.hit(0, 7, 0, Phrasehall.GROUND);
            Check.due("count", count, i);
        }
    }

    private static void isFull() {
        Check.refused("act, the 25th", Check.STATE, PhraseTest::fill, h -> h.act(0, Phrasehall.LINE, 7));
        Check.refused("hit, the 25th", Check.STATE, PhraseTest::fill, h -> h.hit(0, 7, 20, Phrasehall.ON));
        Phrasehall hall = new Phrasehall();
        fill(hall);
        hall.judge();
        Check.due("act when judged", hall.act(0, Phrasehall.LINE, 7), 1);
    }

    private static void wrongActions() {
        int[][] wrong = {{-1, 0, 0}, {2, 0, 0}, {0, -1, 0}, {0, 7, 0}, {0, 0, -1}, {0, 0, 1000001},
            {Integer.MIN_VALUE, 0, 0}, {0, Integer.MAX_VALUE, 0}, {0, 0, Integer.MIN_VALUE}};
        for (int[] w : wrong) {
            String what = "act " + w[0] + " " + w[1] + " " + w[2];
            Check.refused(what, Check.ARGUMENT, PhraseTest::onPiste, h -> h.act(w[0], w[1], w[2]));
            Check.refused(what + " without a bout", Check.ARGUMENT, h -> { }, h -> h.act(w[0], w[1], w[2]));
        }
    }

    private static void wrongContacts() {
        int[][] wrong = {{-1, 0, 20, 0}, {2, 0, 20, 0}, {0, -1, 20, 0}, {0, 1000001, 20, 0}, {0, 0, -1, 0},
            {0, 0, 1001, 0}, {0, 0, 20, -1}, {0, 0, 20, 3}, {0, Integer.MIN_VALUE, 20, 0}};
        for (int[] w : wrong) {
            String what = "hit " + w[0] + " " + w[1] + " " + w[2] + " " + w[3];
            Check.refused(what, Check.ARGUMENT, PhraseTest::onPiste, h -> h.hit(w[0], w[1], w[2], w[3]));
            Check.refused(what + " without a bout", Check.ARGUMENT, h -> { }, h -> h.hit(w[0], w[1], w[2], w[3]));
        }
    }

    private static void begunAt(Phrasehall hall, int time) {
        onPiste(hall);
        hall.act(0, Phrasehall.ATTACK, time);
    }

    private static void wrongStates() {
        Check.refused("act without a bout", Check.STATE, h -> Halls.take(h, 2), h -> h.act(0, 0, 0));
        Check.refused("hit without a bout", Check.STATE, h -> Halls.take(h, 2), h -> h.hit(0, 0, 20, 0));
        Check.refused("act too early", Check.STATE, h -> begunAt(h, 50), h -> h.act(1, Phrasehall.PARRY, 49));
        Check.refused("hit too early", Check.STATE, h -> begunAt(h, 50), h -> h.hit(1, 49, 20, 0));
        Check.refused("act ahead of a contact", Check.STATE, h -> {
            onPiste(h);
            h.hit(0, 50, 0, Phrasehall.GROUND);
        }, h -> h.act(1, Phrasehall.ATTACK, 49));
        Check.refused("act, early and out of range", Check.ARGUMENT, h -> begunAt(h, 50), h -> h.act(1, 7, 49));
    }
}
