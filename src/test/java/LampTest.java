/** Promise 15: lamps by span, target, weapon and lock-out. */
final class LampTest {
    private static final int NONE = Phrasehall.NONE, ON = Phrasehall.ON, OFF = Phrasehall.OFF, GROUND = Phrasehall.GROUND;
    private static final int FOIL = Phrasehall.FOIL, SABRE = Phrasehall.SABRE;
    private static final int[] LEAST_SPAN = {14, 2, 1};
    private static final int[] LOCKOUT = {300, 45, 170};

    public static void main(String[] args) {
        for (int weapon = FOIL; weapon <= SABRE; weapon++) {
            bySpan(weapon);
            byTarget(weapon);
            firstOneOfItsSide(weapon);
            byLockout(weapon);
            lockedOutByAnOff(weapon);
            lockedOutByRegisteredOnesAlone(weapon);
            firstOneAtAnyTime(weapon);
            withoutOne(weapon);
        }
        asThePhraseIs();
        withoutABout();
        wrongSides();
        Check.done();
    }

    @Says(in = "Lamps", value = "A contact of a side has a span, in milliseconds, and a target: ON, OFF, or GROUND. It is"
            + " registered, if its span is at least 14 with a FOIL, 2 with an EPEE, 1 with a SABRE;")
    private static void bySpan(int weapon) {
        int least = LEAST_SPAN[weapon];
        for (int side = 0; side < 2; side++) {
            for (int span : new int[] {0, least - 1}) {
                Phrasehall hall = Halls.bout(weapon, 5);
                hall.hit(side, 10, span, ON);
                Check.due("lamp by too short a span, weapon " + weapon, hall.lamp(side), NONE);
                hall.hit(side, 11, least, ON);
                Check.due("lamp by the least span behind it, weapon " + weapon, hall.lamp(side), ON);
                Check.due("the other lamp, weapon " + weapon, hall.lamp(1 - side), NONE);
            }
            for (int span : new int[] {least, least + 1, 1000}) {
                Phrasehall hall = Halls.bout(weapon, 5);
                hall.hit(side, 10, span, ON);
                Check.due("lamp by a span of " + span + ", weapon " + weapon, hall.lamp(side), ON);
                Check.due("the other lamp, weapon " + weapon, hall.lamp(1 - side), NONE);
            }
        }
    }

    @Says(in = "Lamps", value = {"it is ON, or, with a FOIL, OFF;",
        "The lamp of a side is ON or OFF as its registered contact, otherwise none."})
    private static void byTarget(int weapon) {
        int offLamp = weapon == FOIL ? OFF : NONE;
        int[] due = {ON, offLamp, NONE};
        for (int side = 0; side < 2; side++) {
            for (int target = ON; target <= GROUND; target++) {
                for (int span : new int[] {LEAST_SPAN[weapon] - 1, LEAST_SPAN[weapon], 1000}) {
                    Phrasehall hall = Halls.bout(weapon, 5);
                    hall.hit(side, 10, span, target);
                    Check.due("lamp by target " + target + " and span " + span + ", weapon " + weapon, hall.lamp(side),
                            span < LEAST_SPAN[weapon] ? NONE : due[target]);
                }
            }
        }
    }

    @Says(in = "Lamps", value = "its side has no registered one yet;")
    private static void firstOneOfItsSide(int weapon) {
        Phrasehall on = Halls.bout(weapon, 5);
        on.hit(0, 0, 20, ON);
        on.hit(0, 0, 20, OFF);
        on.hit(0, 1, 20, GROUND);
        Check.due("lamp of ON ahead of OFF, weapon " + weapon, on.lamp(0), ON);
        Phrasehall off = Halls.bout(weapon, 5);
        off.hit(1, 0, 20, OFF);
        off.hit(1, 0, 20, ON);
        Check.due("lamp of OFF ahead of ON, weapon " + weapon, off.lamp(1), weapon == FOIL ? OFF : ON);
        Phrasehall ground = Halls.bout(weapon, 5);
        ground.hit(1, 0, 20, GROUND);
        ground.hit(1, 0, 20, ON);
        Check.due("lamp of GROUND ahead of ON, weapon " + weapon, ground.lamp(1), ON);
        Phrasehall late = Halls.bout(weapon, 5);
        late.hit(0, 0, 20, ON);
        late.hit(0, LOCKOUT[weapon], 20, ON);
        late.hit(1, LOCKOUT[weapon] + 1, 20, ON);
        Check.due("lamp by the lock-out of a second one, weapon " + weapon, late.lamp(1), NONE);
    }

    @Says(in = "Lamps", value = "and its time is at most 300 behind the first registered one, if there is one, with a FOIL,"
            + " 45 with an EPEE, 170 with a SABRE.")
    private static void byLockout(int weapon) {
        for (int side = 0; side < 2; side++) {
            for (int behind : new int[] {0, 1, LOCKOUT[weapon] - 1, LOCKOUT[weapon]}) {
                Phrasehall hall = Halls.bout(weapon, 5);
                hall.hit(side, 100, 20, ON);
                hall.hit(1 - side, 100 + behind, 20, ON);
                Check.due("first lamp, weapon " + weapon, hall.lamp(side), ON);
                Check.due("lamp " + behind + " behind, weapon " + weapon, hall.lamp(1 - side), ON);
            }
            for (int behind : new int[] {LOCKOUT[weapon] + 1, LOCKOUT[weapon] + 2, 999900}) {
                Phrasehall hall = Halls.bout(weapon, 5);
                hall.hit(side, 100, 20, ON);
                hall.hit(1 - side, 100 + behind, 20, ON);
                Check.due("first lamp, weapon " + weapon, hall.lamp(side), ON);
                Check.due("lamp " + behind + " behind, weapon " + weapon, hall.lamp(1 - side), NONE);
            }
        }
    }

    /** Only a FOIL's OFF is registered, and locks out. */
    private static void lockedOutByAnOff(int weapon) {
        for (int late = 0; late < 2; late++) {
            Phrasehall hall = Halls.bout(weapon, 5);
            hall.hit(0, 0, 20, OFF);
            hall.hit(1, LOCKOUT[weapon] + late, 20, ON);
            Check.due("lamp " + late + " behind the lock-out of OFF, weapon " + weapon, hall.lamp(1),
                    late == 1 && weapon == FOIL ? NONE : ON);
        }
        for (int late = 0; late < 2; late++) {
            Phrasehall hall = Halls.bout(weapon, 5);
            hall.hit(0, 0, 20, ON);
            hall.hit(1, LOCKOUT[weapon] + late, 20, OFF);
            Check.due("OFF " + late + " behind the lock-out, weapon " + weapon, hall.lamp(1),
                    late == 0 && weapon == FOIL ? OFF : NONE);
        }
    }

    private static void lockedOutByRegisteredOnesAlone(int weapon) {
        Phrasehall hall = Halls.bout(weapon, 5);
        hall.hit(0, 0, LEAST_SPAN[weapon] - 1, ON);
        hall.hit(0, 1, 20, GROUND);
        hall.hit(1, 600, 20, ON);
        hall.hit(0, 600 + LOCKOUT[weapon], 20, ON);
        Check.due("lamp 0, weapon " + weapon, hall.lamp(0), ON);
        Check.due("lamp 1, weapon " + weapon, hall.lamp(1), ON);
        Phrasehall again = Halls.bout(weapon, 5);
        again.hit(1, 0, 20, ON);
        again.hit(0, LOCKOUT[weapon], LEAST_SPAN[weapon] - 1, ON);
        again.hit(0, LOCKOUT[weapon] + 1, 20, ON);
        again.hit(0, LOCKOUT[weapon] + 2, 20, ON);
        Check.due("lamp 0, too short and then too late, weapon " + weapon, again.lamp(0), NONE);
        Check.due("lamp 1 of the first one, weapon " + weapon, again.lamp(1), ON);
    }

    private static void firstOneAtAnyTime(int weapon) {
        Phrasehall hall = Halls.bout(weapon, 5);
        hall.act(0, Phrasehall.ATTACK, 0);
        hall.hit(1, 1000000, 20, ON);
        Check.due("lamp by a first one at the last time, weapon " + weapon, hall.lamp(1), ON);
        hall.hit(0, 1000000, 20, ON);
        Check.due("the other lamp at that time, weapon " + weapon, hall.lamp(0), ON);
    }

    @Says(in = "lamp", value = "Returns ON or OFF; NONE without,")
    private static void withoutOne(int weapon) {
        Phrasehall hall = Halls.bout(weapon, 5);
        hall.act(0, Phrasehall.ATTACK, 0);
        hall.act(1, Phrasehall.PARRY, 0);
        Check.due("lamp 0 by actions, weapon " + weapon, hall.lamp(0), NONE);
        Check.due("lamp 1 by actions, weapon " + weapon, hall.lamp(1), NONE);
    }

    @Says(in = "lamp", value = "Returns a lamp by the phrase as it is.")
    private static void asThePhraseIs() {
        Phrasehall hall = Halls.bout(FOIL, 5);
        Check.due("lamp of the empty phrase", hall.lamp(0), NONE);
        hall.hit(0, 0, 20, OFF);
        Check.due("lamp 0", hall.lamp(0), OFF);
        Check.due("lamp 0 asked again", hall.lamp(0), OFF);
        hall.hit(1, 300, 20, ON);
        Check.due("lamp 1", hall.lamp(1), ON);
        Check.due("judge", hall.judge(), 0);
        Check.due("lamp 0 when judged", hall.lamp(0), NONE);
        Check.due("lamp 1 when judged", hall.lamp(1), NONE);
    }

    @Says(in = "lamp", value = "or if no bout is on the piste.")
    private static void withoutABout() {
        Phrasehall hall = Halls.bout(Phrasehall.EPEE, 5);
        hall.hit(0, 0, 2, ON);
        hall.hit(1, 0, 2, ON);
        Check.due("lamp on the piste", hall.lamp(1), ON);
        hall.end();
        Check.due("lamp 0 without a bout", hall.lamp(0), NONE);
        Check.due("lamp 1 without a bout", hall.lamp(1), NONE);
        Phrasehall none = new Phrasehall();
        Check.due("lamp 0 ahead of all bouts", none.lamp(0), NONE);
        Check.due("lamp 1 ahead of all bouts", none.lamp(1), NONE);
    }

    @Says(in = "lamp", value = {"`side`: 0 or 1", "Throws `IllegalArgumentException` if side is out of range"})
    private static void wrongSides() {
        for (int side : new int[] {-1, 2, Integer.MIN_VALUE, Integer.MAX_VALUE}) {
            Check.refused("lamp(" + side + ") of a new hall", Check.ARGUMENT, h -> { }, h -> h.lamp(side));
            Check.refused("lamp(" + side + ")", Check.ARGUMENT, h -> {
                Halls.take(h, 2);
                h.begin(0, 1, FOIL, 5, NONE);
                h.hit(0, 0, 20, ON);
                h.hit(1, 0, 20, ON);
            }, h -> h.lamp(side));
        }
    }
}
