/** Promises 6 and 17: judging, and its reasons. */
final class JudgeTest {
    private static final int FOIL = Phrasehall.FOIL, EPEE = Phrasehall.EPEE, SABRE = Phrasehall.SABRE;
    private static final int ON = Phrasehall.ON, OFF = Phrasehall.OFF, GROUND = Phrasehall.GROUND;
    private static final int ATTACK = Phrasehall.ATTACK, MISS = Phrasehall.MISS;

    public static void main(String[] args) {
        withoutLamps();
        withOneLamp();
        doubles();
        doublesAtTheEnd();
        byRight();
        inTime();
        offTarget();
        onlyActionsAheadOfTheLaterContact();
        reasonsStay();
        endsTheBout();
        withoutABout();
        Check.done();
    }

    @Says(in = "judge", value = "Throws `IllegalStateException` if no bout is on the piste")
    private static void withoutABout() {
        Check.refused("judge in a new hall", Check.STATE, h -> { }, h -> h.judge());
        Check.refused("judge without a bout", Check.STATE, h -> Halls.take(h, 2), h -> h.judge());
        Check.refused("judge when over", Check.STATE, h -> {
            Halls.take(h, 2);
            h.begin(0, 1, SABRE, 1, Phrasehall.NONE);
            Halls.singleTouch(h, 0);
        }, h -> h.judge());
        Check.refused("judge when ended", Check.STATE, h -> {
            Halls.take(h, 2);
            h.begin(0, 1, SABRE, 1, Phrasehall.NONE);
            h.hit(0, 0, 1, ON);
            h.end();
        }, h -> h.judge());
    }

    @Says(in = "judge", value = {"Judges the phrase, which is empty then.",
        "Returns the sides that get a touch: 1 for the side 0, 2 for the side 1, added."})
    private static void judged(String what, Phrasehall hall, int sides, int reason) {
        int left = hall.ofBout(0, 0);
        int right = hall.ofBout(0, 1);
        Check.due("judge, " + what, hall.judge(), sides);
        Check.due("reason, " + what, hall.reason(), reason);
        Check.due("touches of the side 0, " + what, hall.ofBout(0, 0) - left, sides & 1);
        Check.due("touches of the side 1, " + what, hall.ofBout(0, 1) - right, sides >> 1);
        Check.due("holder of the empty phrase, " + what, hall.holder(), Phrasehall.NONE);
        Check.due("lamps of the empty phrase, " + what, hall.lamp(0) + hall.lamp(1), 2 * Phrasehall.NONE);
    }

    @Says(in = "Judging", value = "Without a lamp nothing is given, reason NO_LAMP.")
    private static void withoutLamps() {
        for (int weapon = 0; weapon < 3; weapon++) {
            Phrasehall hall = Halls.bout(weapon, 5);
            judged("empty", hall, 0, Phrasehall.NO_LAMP);
            hall.act(0, ATTACK, 1);
            hall.hit(0, 1, 1000, GROUND);
            judged("ground", hall, 0, Phrasehall.NO_LAMP);
            hall.hit(0, 1, weapon == FOIL ? 13 : weapon == EPEE ? 1 : 0, ON);
            judged("too short", hall, 0, Phrasehall.NO_LAMP);
            hall.hit(0, 1, weapon == FOIL ? 14 : weapon == EPEE ? 2 : 1, ON);
            judged("just long enough", hall, 1, Phrasehall.SINGLE);
        }
    }

    @Says(in = "Judging", value = "With one lamp that is ON its side gets a touch, SINGLE; with one that is OFF nothing is"
            + " given, OFF_TARGET.")
    private static void withOneLamp() {
        for (int weapon = 0; weapon < 3; weapon++) {
            for (int side = 0; side < 2; side++) {
                Phrasehall hall = Halls.bout(weapon, 5);
                hall.act(1 - side, ATTACK, 0);
                hall.hit(side, 500, 20, ON);
                judged("single", hall, 1 << side, Phrasehall.SINGLE);
                hall.hit(side, 0, 20, ON);
                hall.hit(1 - side, 301, 20, ON);
                judged("single, the other locked out", hall, 1 << side, Phrasehall.SINGLE);
                hall.hit(side, 0, 20, OFF);
                judged("off", hall, 0, weapon == FOIL ? Phrasehall.OFF_TARGET : Phrasehall.NO_LAMP);
            }
        }
    }

    @Says(in = "Judging", value = "With both lamps: with an EPEE both get a touch, DOUBLE;")
    private static void doubles() {
        Phrasehall hall = Halls.bout(EPEE, 5);
        hall.act(0, ATTACK, 0);
        hall.hit(1, 10, 2, ON);
        hall.hit(0, 55, 2, ON);
        judged("double", hall, 3, Phrasehall.DOUBLE);
        hall.hit(1, 10, 2, ON);
        hall.hit(0, 56, 2, ON);
        judged("too late for a double", hall, 2, Phrasehall.SINGLE);
    }

    @Says(in = "Judging", value = "but nothing is given, DOUBLE all the same, if both would have as many as the bout goes to"
            + " by it, or more.")
    private static void doublesAtTheEnd() {
        for (int left = 0; left < 4; left++) {
            for (int right = 0; right < 4; right++) {
                Phrasehall any = Halls.bout(EPEE, 4);
                Halls.give(any, 0, left);
                Halls.give(any, 1, right);
                any.hit(1, 0, 2, ON);
                any.hit(0, 0, 2, ON);
                judged("double at " + left + " and " + right + " of 4", any, left == 3 && right == 3 ? 0 : 3,
                        Phrasehall.DOUBLE);
                boolean over = left == 3 != (right == 3);
                Check.due("winner of it", any.ofBout(0, 2), over ? left == 3 ? 0 : 1 : Phrasehall.NONE);
            }
        }
        Phrasehall hall = Halls.bout(EPEE, 3);
        Halls.doubleTouch(hall);
        Halls.doubleTouch(hall);
        Check.due("double at 2 of 3", Halls.doubleTouch(hall), 0);
        Check.due("reason of the double that gives nothing", hall.reason(), Phrasehall.DOUBLE);
        Check.due("touches stay", hall.ofBout(0, 0) * 10 + hall.ofBout(0, 1), 22);
        Check.due("the bout goes on", hall.ofBout(0, 2), -1);
        Phrasehall first = Halls.bout(EPEE, 1);
        Check.due("double to 1", Halls.doubleTouch(first), 0);
        Phrasehall ahead = Halls.bout(EPEE, 3);
        Halls.give(ahead, 1, 2);
        Check.due("double at 0 and 2 of 3", Halls.doubleTouch(ahead), 3);
        Check.due("touches of the loser", ahead.ofBout(0, 0), 1);
        Check.due("touches of the winner", ahead.ofBout(0, 1), 3);
        Check.due("the double ends it", ahead.ofBout(0, 2), 1);
        for (int side = 0; side < 2; side++) {
            Phrasehall close = Halls.bout(EPEE, 3);
            Halls.give(close, side, 2);
            Halls.give(close, 1 - side, 1);
            Check.due("double at 2 and 1 of 3", Halls.doubleTouch(close), 3);
            Check.due("the double ends it at 3 and 2", close.ofBout(0, 2), side);
        }
        Phrasehall behind = Halls.bout(EPEE, 3);
        Halls.give(behind, 0, 2);
        Check.due("double at 2 and 0 of 3", Halls.doubleTouch(behind), 3);
        Check.due("the double ends it for the side 0", behind.ofBout(0, 2), 0);
    }

    /** Side, kind and time of one action; then both contacts with time and target. */
    private static Phrasehall met(int weapon, int side, int kind, int time, int[] own, int[] others) {
        Phrasehall hall = Halls.bout(weapon, 5);
        hall.act(side, kind, time);
        boolean ownFirst = own[0] < others[0];
        int[] one = ownFirst ? own : others;
        int[] two = ownFirst ? others : own;
        hall.hit(ownFirst ? side : 1 - side, one[0], 20, one[1]);
        hall.hit(ownFirst ? 1 - side : side, two[0], 20, two[1]);
        return hall;
    }

    @Says(in = "Judging", value = {"if nobody has it, nothing is given, TOGETHER.",
        "Otherwise who has it gets a touch, if their lamp is ON, BY_RIGHT,"})
    private static void byRight() {
        for (int side = 0; side < 2; side++) {
            judged("by right, foil", met(FOIL, side, ATTACK, 0, new int[] {50, ON}, new int[] {60, ON}),
                    1 << side, Phrasehall.BY_RIGHT);
            judged("by right, sabre, later", met(SABRE, side, ATTACK, 0, new int[] {199, ON}, new int[] {50, ON}),
                    1 << side, Phrasehall.BY_RIGHT);
            judged("by right, far ahead", met(FOIL, side, ATTACK, 0, new int[] {50, ON}, new int[] {350, ON}),
                    1 << side, Phrasehall.BY_RIGHT);
            judged("together", met(SABRE, side, MISS, 0, new int[] {50, ON}, new int[] {60, ON}),
                    0, Phrasehall.TOGETHER);
            judged("together, off", met(FOIL, side, MISS, 0, new int[] {50, OFF}, new int[] {60, ON}),
                    0, Phrasehall.TOGETHER);
            judged("together, both off", met(FOIL, side, MISS, 0, new int[] {50, OFF}, new int[] {60, OFF}),
                    0, Phrasehall.TOGETHER);
            judged("by right of one, the other off", met(FOIL, side, ATTACK, 0, new int[] {60, ON}, new int[] {50, OFF}),
                    1 << side, Phrasehall.BY_RIGHT);
            judged("together, long ahead", met(FOIL, side, MISS, 0, new int[] {50, ON}, new int[] {250, ON}),
                    0, Phrasehall.TOGETHER);
        }
    }

    @Says(in = "Judging", value = "If the other lamp is ON, and its contact was 150 or more ahead of that of who has it, the"
            + " other side gets a touch, IN_TIME.")
    private static void inTime() {
        int[] lockout = {300, 0, 170};
        for (int weapon = FOIL; weapon <= SABRE; weapon += 2) {
            for (int ahead : new int[] {0, 1, 149, 150, 151, lockout[weapon] - 1, lockout[weapon], lockout[weapon] + 1}) {
                boolean locked = ahead > lockout[weapon];
                Phrasehall hall = met(weapon, 0, ATTACK, 0, new int[] {50 + ahead, ON}, new int[] {50, ON});
                judged("weapon " + weapon + ", " + ahead + " ahead", hall, ahead >= 150 ? 2 : 1,
                        locked ? Phrasehall.SINGLE : ahead >= 150 ? Phrasehall.IN_TIME : Phrasehall.BY_RIGHT);
            }
        }
        judged("own contact 150 ahead", met(FOIL, 0, ATTACK, 0, new int[] {50, ON}, new int[] {200, ON}), 1,
                Phrasehall.BY_RIGHT);
        for (int side = 0; side < 2; side++) {
            int other = 1 << (1 - side);
            judged("in time, foil", met(FOIL, side, ATTACK, 0, new int[] {200, ON}, new int[] {50, ON}),
                    other, Phrasehall.IN_TIME);
            judged("in time, sabre", met(SABRE, side, ATTACK, 0, new int[] {220, ON}, new int[] {50, ON}),
                    other, Phrasehall.IN_TIME);
            judged("149 ahead", met(FOIL, side, ATTACK, 0, new int[] {199, ON}, new int[] {50, ON}),
                    1 << side, Phrasehall.BY_RIGHT);
            judged("in time of one who is off", met(FOIL, side, ATTACK, 0, new int[] {200, OFF}, new int[] {50, ON}),
                    other, Phrasehall.IN_TIME);
            judged("off is not in time", met(FOIL, side, ATTACK, 0, new int[] {200, ON}, new int[] {50, OFF}),
                    1 << side, Phrasehall.BY_RIGHT);
        }
    }

    @Says(in = "Judging", value = "and nothing is given, if it is OFF, OFF_TARGET.")
    private static void offTarget() {
        for (int side = 0; side < 2; side++) {
            judged("off by right", met(FOIL, side, ATTACK, 0, new int[] {60, OFF}, new int[] {50, ON}),
                    0, Phrasehall.OFF_TARGET);
            judged("off by right, 149 behind", met(FOIL, side, ATTACK, 0, new int[] {199, OFF}, new int[] {50, ON}),
                    0, Phrasehall.OFF_TARGET);
            judged("both off", met(FOIL, side, ATTACK, 0, new int[] {260, OFF}, new int[] {50, OFF}),
                    0, Phrasehall.OFF_TARGET);
        }
    }

    /** In the row, not by the time: what stands behind the later contact does not count. */
    @Says(in = "Judging", value = "With a FOIL or SABRE it goes by who has right of way behind all actions that are ahead of"
            + " the later one of both registered contacts in the row:")
    private static void onlyActionsAheadOfTheLaterContact() {
        Phrasehall hall = Halls.bout(SABRE, 5);
        hall.hit(0, 50, 1, ON);
        hall.hit(1, 50, 1, ON);
        hall.act(0, ATTACK, 50);
        Check.due("holder behind all", hall.holder(), 0);
        judged("attack behind both", hall, 0, Phrasehall.TOGETHER);
        hall.hit(0, 50, 1, ON);
        hall.act(1, ATTACK, 50);
        hall.hit(1, 50, 1, ON);
        hall.act(1, MISS, 50);
        judged("attack between both", hall, 2, Phrasehall.BY_RIGHT);
        hall.hit(1, 50, 1, ON);
        hall.act(0, ATTACK, 50);
        hall.hit(1, 50, 1, ON);
        hall.hit(0, 60, 1, ON);
        hall.hit(0, 70, 1, ON);
        judged("contacts that are not registered", hall, 1, Phrasehall.BY_RIGHT);
        hall.act(0, ATTACK, 0);
        hall.hit(1, 50, 1, ON);
        hall.hit(0, 50, 1, ON);
        hall.act(0, MISS, 60);
        hall.hit(0, 70, 1, ON);
        hall.hit(1, 70, 1, ON);
        judged("behind both, ahead of some that are not registered", hall, 1, Phrasehall.BY_RIGHT);
        hall.hit(1, 0, 1, ON);
        hall.hit(0, 0, 0, ON);
        hall.act(0, ATTACK, 0);
        hall.hit(0, 0, 1, ON);
        judged("behind one that is too short", hall, 1, Phrasehall.BY_RIGHT);
    }

    @Says(in = "reason", value = "Returns the reason of the last judging; NONE ahead of the first one.")
    private static void reasonsStay() {
        Phrasehall hall = Halls.bout(SABRE, 5);
        Check.due("reason ahead of the first judging", hall.reason(), -1);
        Halls.singleTouch(hall, 0);
        Check.due("reason", hall.reason(), Phrasehall.SINGLE);
        hall.card(0, 2);
        hall.clock(10);
        hall.end();
        Check.due("reason when over", hall.reason(), Phrasehall.SINGLE);
        hall.begin(0, 1, SABRE, 5, Phrasehall.NONE);
        hall.hit(0, 5, 0, ON);
        Check.due("reason in the next bout", hall.reason(), Phrasehall.SINGLE);
        hall.judge();
        Check.due("reason of the next judging", hall.reason(), Phrasehall.NO_LAMP);
    }

    @Says(in = "Cards, clocks", value = "A bout is over, too, as soon as a side has as many touches as it goes to, or more.")
    private static void endsTheBout() {
        Phrasehall hall = Halls.bout(SABRE, 2);
        Halls.singleTouch(hall, 1);
        Check.due("on the piste at 1 of 2", hall.ofBout(0, 2), -1);
        Check.due("the last touch", Halls.singleTouch(hall, 1), 2);
        Check.due("over at 2 of 2", hall.ofBout(0, 2), 1);
        Check.due("begin of the next", hall.begin(0, 1, SABRE, 1, Phrasehall.NONE), 1);
        Check.due("touches of the one before", hall.ofBout(0, 1), 2);
    }
}
