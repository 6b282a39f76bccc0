/** Promise 15: lamps by span, target, weapon and lock-out. */
final class LampTest {
    private static final int[] WEAPONS = {Phrasehall.FOIL, Phrasehall.EPEE, Phrasehall.SABRE};
    private static final int[] LEAST_SPAN = {14, 2, 1};
    private static final int[] LOCKOUT = {300, 45, 170};

    public static void main(String[] args) {
        for (int weapon : WEAPONS) {
            bySpan(weapon);
            byTarget(weapon);
            byLockout(weapon);
            firstOneStays(weapon);
            lockedOutByAnyAhead(weapon);
        }
        lateOneLeavesRoomForNone();
        withoutABout();
        Check.refused("lamp(-1)", Check.ARGUMENT, h -> { }, h -> h.lamp(-1));
        Check.refused("lamp(2)", Check.ARGUMENT, h -> Halls.take(h, 2), h -> h.lamp(2));
        Check.done();
    }

    private static void bySpan(int weapon) {
        int least = LEAST_SPAN[weapon];
        for (int side = 0; side < 2; side++) {
            Phrasehall hall = Halls.bout(weapon, 5);
            hall.hit(side, 10, least - 1, Phrasehall.ON);
            Check.due("lamp by too short a span, weapon " + weapon, hall.lamp(side), -1);
            hall.hit(side, 11, least, Phrasehall.ON);
            Check.due("lamp by the least span, weapon " + weapon, hall.lamp(side), Phrasehall.ON);
            Check.due("the other lamp, weapon " + weapon, hall.lamp(1 - side), -1);
        }
    }

    private static void byTarget(int weapon) {
        int offLamp = weapon == Phrasehall.FOIL ? Phrasehall.OFF : -1;
        int[] due = {Phrasehall.ON, offLamp, -1};
        for (int target = 0; target < 3; target++) {
            Phrasehall hall = Halls.bout(weapon, 5);
            hall.hit(1, 10, 500, target);
            Check.due("lamp by target " + target + ", weapon " + weapon, hall.lamp(1), due[target]);
        }
    }

    private static void byLockout(int weapon) {
        for (int side = 0; side < 2; side++) {
            for (int late = 0; late < 2; late++) {
                Phrasehall hall = Halls.bout(weapon, 5);
                hall.hit(side, 100, 20, Phrasehall.ON);
                hall.hit(1 - side, 100 + LOCKOUT[weapon] + late, 20, Phrasehall.ON);
                Check.due("first lamp, weapon " + weapon, hall.lamp(side), Phrasehall.ON);
                Check.due("lamp " + late + " behind the lock-out, weapon " + weapon, hall.lamp(1 - side),
                        late == 0 ? Phrasehall.ON : -1);
            }
        }
    }

    /** A second contact of a side is not registered, and does not count as the first one of both. */
    private static void firstOneStays(int weapon) {
        Phrasehall hall = Halls.bout(weapon, 5);
        hall.hit(0, 0, 20, weapon == Phrasehall.FOIL ? Phrasehall.OFF : Phrasehall.ON);
        hall.hit(0, LOCKOUT[weapon], 20, Phrasehall.ON);
        hall.hit(1, LOCKOUT[weapon] + 1, 20, Phrasehall.ON);
        Check.due("lamp of the first contact, weapon " + weapon, hall.lamp(0),
                weapon == Phrasehall.FOIL ? Phrasehall.OFF : Phrasehall.ON);
        Check.due("lamp behind the first lock-out, weapon " + weapon, hall.lamp(1), -1);
    }

    /** Contacts that are not registered lock nobody out. */
    private static void lockedOutByAnyAhead(int weapon) {
        Phrasehall hall = Halls.bout(weapon, 5);
        hall.hit(0, 0, LEAST_SPAN[weapon] - 1, Phrasehall.ON);
        hall.hit(0, 1, 20, Phrasehall.GROUND);
        hall.hit(1, 600, 20, Phrasehall.ON);
        hall.hit(0, 600, 20, Phrasehall.ON);
        Check.due("lamp 0, weapon " + weapon, hall.lamp(0), Phrasehall.ON);
        Check.due("lamp 1, weapon " + weapon, hall.lamp(1), Phrasehall.ON);
    }

    private static void lateOneLeavesRoomForNone() {
        Phrasehall hall = Halls.bout(Phrasehall.EPEE, 5);
        hall.hit(1, 0, 2, Phrasehall.ON);
        hall.hit(0, 46, 2, Phrasehall.ON);
        hall.hit(0, 47, 2, Phrasehall.ON);
        Check.due("lamp 0, twice too late", hall.lamp(0), -1);
        hall.judge();
        Check.due("lamp 1 when judged", hall.lamp(1), -1);
    }

    private static void withoutABout() {
        Phrasehall hall = Halls.bout(Phrasehall.EPEE, 5);
        hall.hit(1, 0, 2, Phrasehall.ON);
        Check.due("lamp on the piste", hall.lamp(1), Phrasehall.ON);
        hall.end();
        Check.due("lamp without a bout", hall.lamp(1), -1);
    }
}
