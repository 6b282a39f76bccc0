/** Promise 16: who has right of way behind all actions. */
final class RightOfWayTest {
    private static final int ATTACK = Phrasehall.ATTACK, LINE = Phrasehall.LINE, BEAT = Phrasehall.BEAT;
    private static final int PARRY = Phrasehall.PARRY, RIPOSTE = Phrasehall.RIPOSTE, REMISE = Phrasehall.REMISE;
    private static final int MISS = Phrasehall.MISS;

    public static void main(String[] args) {
        atFirst();
        attacks();
        lines();
        beats();
        parries();
        ripostes();
        remises();
        misses();
        withContactsAndWeapons();
        forgottenInTheNextPhrase();
        askedAgain();
        Check.done();
    }

    /** Rows of side, kind and time; the same with the sides changed must answer the other side. */
    private static void holder(String what, int due, int... row) {
        for (int turn = 0; turn < 2; turn++) {
            Phrasehall hall = Halls.bout(Phrasehall.SABRE, 5);
            for (int i = 0; i < row.length; i += 3) {
                hall.act(turn == 0 ? row[i] : 1 - row[i], row[i + 1], row[i + 2]);
            }
            Check.due("holder, " + what + ", turn " + turn, hall.holder(), due == -1 || turn == 0 ? due : 1 - due);
        }
    }

    @Says(in = "Right of way", value = "In a phrase nobody has it at first. By its actions in order, each of a side, the"
            + " other one being the other:")
    @Says(in = "holder", value = "Returns the side that has right of way behind all actions of the phrase; NONE if nobody"
            + " has it.")
    private static void atFirst() {
        holder("nothing", -1);
        int[] due = {0, 0, -1, -1, -1, -1, -1};
        for (int kind = ATTACK; kind <= MISS; kind++) {
            holder("the first action " + kind, due[kind], 0, kind, 0);
            holder("the first action at the last time " + kind, due[kind], 0, kind, 1000000);
        }
        holder("in their order, at one time", -1, 0, ATTACK, 7, 0, MISS, 7);
        holder("in the other order, at one time", 0, 0, MISS, 7, 0, ATTACK, 7);
    }

    @Says(in = "Right of way", value = "- ATTACK: if the other one has it by an ATTACK that was at most 40 ahead, nobody has"
            + " it. If the other one has it otherwise, nothing. If not (nobody has it, or the side itself by whatever), the"
            + " side has it, by this ATTACK, from its time on.")
    private static void attacks() {
        holder("attack", 0, 0, ATTACK, 0);
        holder("attack 40 behind an attack", -1, 0, ATTACK, 10, 1, ATTACK, 50);
        holder("attack at the time of an attack", -1, 0, ATTACK, 10, 1, ATTACK, 10);
        holder("attack 41 behind an attack", 0, 0, ATTACK, 10, 1, ATTACK, 51);
        holder("attack into a line", 0, 0, LINE, 10, 1, ATTACK, 11);
        holder("attack behind a riposte", 0, 1, ATTACK, 0, 0, PARRY, 1, 0, RIPOSTE, 2, 1, ATTACK, 3);
        holder("attack behind a remise", 0, 0, ATTACK, 0, 1, PARRY, 1, 0, REMISE, 302, 1, ATTACK, 303);
        holder("own attack anew, 40 ahead", -1, 0, ATTACK, 0, 0, ATTACK, 60, 1, ATTACK, 100);
        holder("own attack anew, 41 ahead", 0, 0, ATTACK, 0, 0, ATTACK, 60, 1, ATTACK, 101);
        holder("own attack in a line", -1, 0, LINE, 0, 0, ATTACK, 60, 1, ATTACK, 100);
        holder("own attack behind a riposte", -1, 1, ATTACK, 0, 0, PARRY, 1, 0, RIPOSTE, 2, 0, ATTACK, 3, 1, ATTACK, 4);
        holder("own attack behind a remise", -1,
                0, ATTACK, 0, 1, PARRY, 1, 0, REMISE, 302, 0, ATTACK, 303, 1, ATTACK, 304);
        holder("own attack behind a beat, 40 ahead", -1, 1, LINE, 0, 0, BEAT, 1, 0, ATTACK, 100, 1, ATTACK, 140);
        holder("attack 39 behind an attack", -1, 0, ATTACK, 10, 1, ATTACK, 49);
        holder("attack long behind an attack", 0, 0, ATTACK, 0, 1, ATTACK, 1000000);
        holder("attack long behind nobody", 1, 0, ATTACK, 0, 1, ATTACK, 40, 1, ATTACK, 81);
        holder("third attack", 0, 0, ATTACK, 0, 1, ATTACK, 5, 0, ATTACK, 6);
        holder("third attack of the other", 1, 0, ATTACK, 0, 1, ATTACK, 5, 1, ATTACK, 6);
    }

    @Says(in = "Right of way", value = "- LINE: if nobody has it, the side has it, by LINE; otherwise nothing.")
    private static void lines() {
        holder("own line changes no riposte", -1,
                1, ATTACK, 0, 0, PARRY, 1, 0, RIPOSTE, 2, 0, LINE, 3, 1, PARRY, 4);
        holder("line against a riposte", 0, 1, ATTACK, 0, 0, PARRY, 1, 0, RIPOSTE, 2, 1, LINE, 3);
        holder("line behind a miss", 1, 0, LINE, 0, 0, MISS, 1, 1, LINE, 2);
        holder("line behind attacks at one time", 1, 0, ATTACK, 0, 1, ATTACK, 0, 1, LINE, 0);
        holder("line", 0, 0, LINE, 0);
        holder("line against a line", 0, 0, LINE, 0, 1, LINE, 5);
        holder("line against an attack", 0, 0, ATTACK, 0, 1, LINE, 5);
        holder("own line changes no attack", -1, 0, ATTACK, 0, 0, LINE, 5, 1, ATTACK, 40);
        holder("line behind a parry", 0, 0, ATTACK, 0, 1, PARRY, 5, 0, LINE, 6);
    }

    @Says(in = "Right of way", value = "- BEAT: if the other one has it by LINE, the side has it, by an ATTACK of this time;"
            + " otherwise nothing.")
    private static void beats() {
        holder("beat of a riposte", 0, 1, ATTACK, 0, 0, PARRY, 1, 0, RIPOSTE, 2, 1, BEAT, 3);
        holder("beat of a remise", 0, 0, ATTACK, 0, 1, PARRY, 1, 0, REMISE, 302, 1, BEAT, 303);
        holder("beat of a beat", 1, 0, LINE, 0, 1, BEAT, 5, 0, BEAT, 6);
        holder("beat of an attack out of a line", 0, 0, LINE, 0, 0, ATTACK, 5, 1, BEAT, 6);
        holder("beat of a line", 1, 0, LINE, 0, 1, BEAT, 5);
        holder("beat of an attack", 0, 0, ATTACK, 0, 1, BEAT, 5);
        holder("beat of nobody", -1, 0, BEAT, 5);
        holder("own beat of a line", 0, 0, LINE, 0, 0, BEAT, 5);
        holder("own beat leaves a line", 0, 0, LINE, 0, 0, BEAT, 5, 1, ATTACK, 6);
        holder("attack 40 behind a beat", -1, 0, LINE, 0, 1, BEAT, 500, 0, ATTACK, 540);
        holder("attack 41 behind a beat", 1, 0, LINE, 0, 1, BEAT, 500, 0, ATTACK, 541);
    }

    @Says(in = "Right of way", value = "- PARRY: if the other one has it, but not by LINE, nobody has it, and the side has"
            + " parried; otherwise nothing.")
    private static void parries() {
        holder("own parry is none", -1, 0, ATTACK, 0, 0, PARRY, 5, 0, MISS, 6, 0, RIPOSTE, 7);
        holder("parry of a line leaves the last one", 1,
                0, ATTACK, 0, 1, PARRY, 5, 1, LINE, 6, 0, PARRY, 7, 1, MISS, 8, 1, RIPOSTE, 9);
        holder("parry of nobody leaves the last one", 1, 0, ATTACK, 0, 1, PARRY, 5, 0, PARRY, 6, 1, RIPOSTE, 7);
        holder("parry of nobody leaves its time", -1, 0, ATTACK, 0, 1, PARRY, 5, 1, PARRY, 100, 1, RIPOSTE, 306);
        holder("parry of an attack out of a line", -1, 0, LINE, 0, 0, ATTACK, 5, 1, PARRY, 6);
        holder("parry of an attack", -1, 0, ATTACK, 0, 1, PARRY, 5);
        holder("parry of a line", 0, 0, LINE, 0, 1, PARRY, 5);
        holder("own parry", 0, 0, ATTACK, 0, 0, PARRY, 5);
        holder("parry of a beat", -1, 0, LINE, 0, 1, BEAT, 5, 0, PARRY, 6);
        holder("parry of a riposte", -1, 0, ATTACK, 0, 1, PARRY, 5, 1, RIPOSTE, 6, 0, PARRY, 7);
        holder("riposte of a counter-parry", 0, 0, ATTACK, 0, 1, PARRY, 5, 1, RIPOSTE, 6, 0, PARRY, 7, 0, RIPOSTE, 8);
        holder("parry of a remise", -1, 0, ATTACK, 0, 1, PARRY, 5, 0, REMISE, 306, 1, PARRY, 307);
        holder("parry of nobody is none", -1, 1, PARRY, 5, 1, RIPOSTE, 6);
        holder("parry of a line is none", -1, 0, LINE, 0, 1, PARRY, 5, 0, MISS, 6, 1, RIPOSTE, 7);
    }

    @Says(in = "Right of way", value = "- RIPOSTE: if nobody has it, and the side was the last one that parried, not more"
            + " than 300 ahead, the side has it, by RIPOSTE; otherwise nothing.")
    private static void ripostes() {
        holder("riposte at the time of the parry", 1, 0, ATTACK, 0, 1, PARRY, 5, 1, RIPOSTE, 5);
        holder("riposte 299 behind", 1, 0, ATTACK, 0, 1, PARRY, 5, 1, RIPOSTE, 304);
        holder("riposte long behind", -1, 0, ATTACK, 0, 1, PARRY, 5, 1, RIPOSTE, 1000000);
        holder("riposte changes no own attack", -1,
                0, ATTACK, 0, 1, PARRY, 5, 1, ATTACK, 6, 1, RIPOSTE, 7, 0, ATTACK, 46);
        holder("riposte 300 behind", 1, 0, ATTACK, 0, 1, PARRY, 5, 1, RIPOSTE, 305);
        holder("riposte 301 behind", -1, 0, ATTACK, 0, 1, PARRY, 5, 1, RIPOSTE, 306);
        holder("riposte of the other", -1, 0, ATTACK, 0, 1, PARRY, 5, 0, RIPOSTE, 6);
        holder("riposte without a parry", -1, 0, RIPOSTE, 6);
        holder("riposte against who has it", 0, 0, ATTACK, 0, 1, PARRY, 5, 0, ATTACK, 6, 1, RIPOSTE, 7);
        holder("riposte behind a miss", 1, 0, ATTACK, 0, 1, PARRY, 5, 0, ATTACK, 6, 0, MISS, 7, 1, RIPOSTE, 8);
        holder("riposte twice", 1, 0, ATTACK, 0, 1, PARRY, 5, 1, RIPOSTE, 6, 1, MISS, 7, 1, RIPOSTE, 8);
        holder("the last one that parried", -1, 0, ATTACK, 0, 1, PARRY, 5, 1, RIPOSTE, 6, 0, PARRY, 7, 1, RIPOSTE, 8);
        holder("riposte by the later parry", 1,
                0, ATTACK, 0, 1, PARRY, 5, 0, ATTACK, 300, 1, PARRY, 310, 1, RIPOSTE, 610);
    }

    @Says(in = "Right of way", value = "- REMISE: if nobody has it, and the other one was the last one that parried, more"
            + " than 300 ahead, the side has it, by REMISE; otherwise nothing.")
    private static void remises() {
        holder("remise at the time of the parry", -1, 0, ATTACK, 0, 1, PARRY, 5, 0, REMISE, 5);
        holder("remise long behind", 0, 0, ATTACK, 0, 1, PARRY, 5, 0, REMISE, 1000000);
        holder("remise changes no own attack", -1,
                0, ATTACK, 0, 1, PARRY, 5, 0, ATTACK, 306, 0, REMISE, 306, 1, ATTACK, 346);
        holder("remise, the side was the last one that parried", -1,
                0, ATTACK, 0, 1, PARRY, 5, 1, RIPOSTE, 6, 0, PARRY, 7, 0, REMISE, 308);
        holder("remise 300 behind the last one that parried", -1,
                0, ATTACK, 0, 1, PARRY, 5, 1, RIPOSTE, 6, 0, PARRY, 7, 1, REMISE, 307);
        holder("remise 301 behind the last one that parried", 1,
                0, ATTACK, 0, 1, PARRY, 5, 1, RIPOSTE, 6, 0, PARRY, 7, 1, REMISE, 308);
        holder("remise 300 behind", -1, 0, ATTACK, 0, 1, PARRY, 5, 0, REMISE, 305);
        holder("remise 301 behind", 0, 0, ATTACK, 0, 1, PARRY, 5, 0, REMISE, 306);
        holder("remise of who parried", -1, 0, ATTACK, 0, 1, PARRY, 5, 1, REMISE, 306);
        holder("remise without a parry", -1, 0, REMISE, 900);
        holder("remise against who has it", 1, 0, ATTACK, 0, 1, PARRY, 5, 1, RIPOSTE, 6, 0, REMISE, 306);
        holder("attack in a remise", 0, 0, ATTACK, 0, 1, PARRY, 5, 0, REMISE, 306, 1, ATTACK, 307);
    }

    @Says(in = "Right of way", value = "- MISS: if the side has it, nobody has it; otherwise nothing.")
    private static void misses() {
        holder("miss of a beat", -1, 0, LINE, 0, 1, BEAT, 5, 1, MISS, 6);
        holder("miss of a riposte", -1, 0, ATTACK, 0, 1, PARRY, 5, 1, RIPOSTE, 6, 1, MISS, 7);
        holder("miss of a remise", -1, 0, ATTACK, 0, 1, PARRY, 5, 0, REMISE, 306, 0, MISS, 307);
        holder("miss is no parry", -1, 0, ATTACK, 0, 0, MISS, 5, 1, RIPOSTE, 6);
        holder("miss long behind", -1, 0, ATTACK, 0, 0, MISS, 1000000);
        holder("miss", -1, 0, ATTACK, 0, 0, MISS, 5);
        holder("miss of a line", -1, 0, LINE, 0, 0, MISS, 5);
        holder("miss of the other", 0, 0, ATTACK, 0, 1, MISS, 5);
        holder("miss of nobody", -1, 0, MISS, 5);
        holder("attack behind a miss", 1, 0, ATTACK, 0, 0, MISS, 5, 1, ATTACK, 6);
    }

    private static void forgottenInTheNextPhrase() {
        Phrasehall hall = Halls.bout(Phrasehall.SABRE, 5);
        hall.act(0, ATTACK, 0);
        hall.act(1, PARRY, 10);
        Check.due("holder behind a parry", hall.holder(), -1);
        hall.judge();
        hall.act(1, RIPOSTE, 11);
        Check.due("holder by a riposte of a parry in the phrase before", hall.holder(), -1);
        hall.act(0, REMISE, 900);
        Check.due("holder by a remise of a parry in the phrase before", hall.holder(), -1);
    }

    /** What stands later in the row is not known to what stands ahead of it, however often it was asked. */
    private static void askedAgain() {
        Phrasehall hall = Halls.bout(Phrasehall.SABRE, 5);
        hall.act(0, RIPOSTE, 0);
        hall.act(1, ATTACK, 1);
        hall.act(0, PARRY, 2);
        Check.due("holder", hall.holder(), -1);
        Check.due("holder asked again", hall.holder(), -1);
        hall.act(0, RIPOSTE, 3);
        Check.due("holder by the riposte behind the parry", hall.holder(), 0);
        Check.due("holder by it asked again", hall.holder(), 0);
    }

    private static void withContactsAndWeapons() {
        for (int weapon = 0; weapon < 3; weapon++) {
            Phrasehall hall = Halls.bout(weapon, 5);
            hall.hit(1, 0, 20, Phrasehall.ON);
            hall.act(0, ATTACK, 1);
            hall.hit(0, 2, 20, Phrasehall.ON);
            Check.due("holder among contacts, weapon " + weapon, hall.holder(), 0);
            Check.due("holder asked again", hall.holder(), 0);
            hall.act(0, MISS, 2);
            Check.due("holder behind a miss, weapon " + weapon, hall.holder(), -1);
            hall.act(1, LINE, 2);
            hall.end();
            Check.due("holder when over, weapon " + weapon, hall.holder(), -1);
        }
    }
}
