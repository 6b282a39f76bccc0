/** What is asked, from lamp to meets, changes nothing, however often it is asked. */
final class AskedTest {
    public static void main(String[] args) {
        askedChangesNothing();
        Check.done();
    }

    @Says(in = "Terms", value = "Fencers, pools, bouts, actions, contacts, cards and seconds come by calls; lamps, reasons,"
            + " scores, tables and ranks are asked.")
    private static void askedChangesNothing() {
        for (int weapon = 0; weapon < 3; weapon++) {
            Phrasehall asked = new Phrasehall();
            Phrasehall twin = new Phrasehall();
            for (int part = 0; part < 3; part++) {
                play(asked, part, weapon);
                play(twin, part, weapon);
                if (part > 0) {
                    Probe.ask(asked);
                }
            }
            Check.alike("all that is told, weapon " + weapon, Probe.all(asked), Probe.all(twin));
        }
    }

    /** Parts of a run that leaves all kinds of things half done. */
    private static void play(Phrasehall hall, int part, int weapon) {
        if (part == 0) {
            Halls.take(hall, 4);
            hall.pool(15);
            Halls.fence(hall, 0, 0, 1, 2, 1);
            Halls.fence(hall, 0, 3, 2, 1, 0);
        } else if (part == 1) {
            hall.seed(3);
            hall.tableau(0);
            hall.wins(0, 1, 1);
            hall.begin(2, 1, weapon, 9, 0);
            hall.card(0, 1);
            hall.clock(59);
            hall.act(0, Phrasehall.ATTACK, 10);
            hall.act(1, Phrasehall.PARRY, 20);
            hall.hit(0, 20, 20, Phrasehall.ON);
        } else {
            hall.card(1, 3);
            hall.act(1, Phrasehall.RIPOSTE, 30);
            hall.hit(1, 40, 20, Phrasehall.ON);
            hall.withdraw(0, 3);
        }
    }
}
