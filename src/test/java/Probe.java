/** Asks a hall all that can be asked, and then moves it so that what is hidden shows. */
final class Probe {
    private final Phrasehall hall;
    private final StringBuilder told = new StringBuilder();

    private Probe(Phrasehall hall) {
        this.hall = hall;
    }

    static String all(Phrasehall hall) {
        Probe probe = new Probe(hall);
        probe.askAll();
        probe.moveOn();
        return probe.told.toString();
    }

    /** Only asks; so many of the calls that an object is used for: 106. */
    static void ask(Phrasehall hall) {
        new Probe(hall).askAll();
    }

    private void tell(java.util.function.Function<Phrasehall, Object> call) {
        told.append(Check.answer(hall, call)).append(' ');
    }

    private void askAll() {
        tell(h -> h.holder());
        tell(h -> h.reason());
        tell(h -> h.lamp(0));
        tell(h -> h.lamp(1));
        for (int bout = 0; bout < 3; bout++) {
            askBout(bout);
        }
        for (int pool = 0; pool < 2; pool++) {
            for (int fencer = 0; fencer < 4; fencer++) {
                askRow(pool, fencer);
            }
        }
        for (int round = 0; round < 2; round++) {
            for (int match = 0; match < 2; match++) {
                askMatch(round, match);
            }
        }
    }

    private void askBout(int bout) {
        for (int what = 0; what < 6; what++) {
            int asked = what;
            tell(h -> h.ofBout(bout, asked));
        }
    }

    private void askRow(int pool, int fencer) {
        tell(h -> h.rank(pool, fencer));
        for (int what = 0; what < 4; what++) {
            int asked = what;
            tell(h -> h.ofPool(pool, fencer, asked));
            tell(h -> h.ofPoolAnew(pool, fencer, asked));
        }
    }

    private void askMatch(int round, int match) {
        for (int side = 0; side < 3; side++) {
            int asked = side;
            tell(h -> h.meets(round, match, asked));
        }
    }

    private void moveOn() {
        tell(h -> h.wins(0, 0, 0));
        tell(h -> h.act(0, Phrasehall.MISS, 999_999));
        tell(h -> h.judge());
        for (int group = 1; group <= 3; group++) {
            int given = group;
            tell(h -> h.card(0, given));
            tell(h -> h.card(1, given));
        }
        tell(h -> h.clock(59));
        tell(h -> h.clock(240));
        tell(h -> h.end());
        tell(h -> h.begin(0, 1, 0, 1, 0));
        tell(h -> h.end());
        tell(h -> h.withdraw(0, 0));
        tell(h -> h.withdraw(0, 1));
        tell(h -> h.tableau(0));
        for (int i = 0; i < 3; i++) {
            tell(h -> h.pool(3));
        }
        for (int i = 0; i < 3; i++) {
            drawOnce();
        }
        for (int i = 0; i < 4; i++) {
            tell(h -> h.fencer());
        }
    }

    /** A bout whose touches stay alike until its time went by, so that the seed shows. */
    private void drawOnce() {
        tell(h -> h.begin(0, 1, Phrasehall.EPEE, 45, Phrasehall.NONE));
        tell(h -> h.clock(50));
        tell(h -> h.hit(0, 0, 2, Phrasehall.ON));
        tell(h -> h.hit(1, 0, 2, Phrasehall.ON));
        tell(h -> h.judge());
        tell(h -> h.clock(130));
        tell(h -> h.clock(60));
        for (int bout = 0; bout < 8; bout++) {
            int asked = bout;
            tell(h -> h.ofBout(asked, 5));
        }
    }
}
