/** Promise 3: begin. */
final class BeginTest {
    private static final int NONE = Phrasehall.NONE;

    public static void main(String[] args) {
        newBoutIsBlank();
        edgesOfRanges();
        eightyBouts();
        withdrawnElsewhere();
        wrongNumbers();
        wrongArguments();
        wrongStates();
        whichIsFirst();
        Check.done();
    }

    private static void newBoutIsBlank() {
        Phrasehall hall = Halls.with(3);
        Check.due("begin", hall.begin(2, 0, Phrasehall.FOIL, 5, NONE), 0);
        int[] due = {0, 0, -1, 0, 0, -1};
        for (int what = 0; what < 6; what++) {
            Check.due("ofBout of a new one, " + what, hall.ofBout(0, what), due[what]);
        }
        hall.end();
        Check.due("begin again", hall.begin(2, 0, Phrasehall.FOIL, 5, NONE), 1);
    }

    private static void edgesOfRanges() {
        int[][] right = {{0, 1}, {0, 45}, {1, 1}, {2, 45}};
        for (int[] pair : right) {
            Check.due("weapon " + pair[0] + " to " + pair[1], Halls.with(2).begin(0, 1, pair[0], pair[1], NONE), 0);
        }
    }

    private static void eightyBouts() {
        Check.refused("the 81st bout", Check.STATE, h -> {
            Halls.take(h, 2);
            for (int i = 0; i < 80; i++) {
                Check.due("begin", h.begin(0, 1, 0, 1, NONE), i);
                h.end();
            }
        }, h -> h.begin(0, 1, 0, 1, NONE));
    }

    private static void withdrawnElsewhere() {
        Phrasehall hall = Halls.with(2);
        hall.pool(3);
        hall.pool(3);
        hall.withdraw(0, 1);
        Check.due("begin of no pool", hall.begin(0, 1, 0, 1, NONE), 0);
        hall.end();
        Check.due("begin of another pool", hall.begin(0, 1, 0, 1, 1), 1);
    }

    private static void pooled(Phrasehall hall) {
        Halls.take(hall, 4);
        hall.pool(7);
    }

    private static void wrongNumbers() {
        int[][] wrong = {{-1, 1, NONE}, {4, 1, NONE}, {1, -1, NONE}, {1, 4, NONE}, {1, 12, NONE}, {0, 1, -2}, {0, 1, 1},
            {0, 1, 6}, {Integer.MIN_VALUE, 0, NONE}, {0, Integer.MAX_VALUE, NONE}, {0, 1, Integer.MIN_VALUE}};
        for (int[] w : wrong) {
            Check.refused("begin " + w[0] + " " + w[1] + " pool " + w[2], Check.INDEX, BeginTest::pooled,
                    h -> h.begin(w[0], w[1], 0, 5, w[2]));
        }
    }

    private static void wrongArguments() {
        int[][] wrong = {{0, 0, 0, 5, NONE}, {0, 1, -1, 5, NONE}, {0, 1, 3, 5, NONE}, {0, 1, 0, 0, NONE},
            {0, 1, 0, 46, NONE}, {0, 1, 0, -1, 0}, {0, 3, 0, 5, 0}, {3, 0, 0, 5, 0}};
        for (int[] w : wrong) {
            Check.refused("begin " + w[0] + " " + w[1] + " " + w[2] + " " + w[3] + " " + w[4], Check.ARGUMENT,
                    BeginTest::pooled, h -> h.begin(w[0], w[1], w[2], w[3], w[4]));
        }
    }

    private static void wrongStates() {
        Check.refused("begin, one on the piste", Check.STATE, h -> {
            pooled(h);
            h.begin(0, 1, 0, 5, NONE);
        }, h -> h.begin(2, 3, 0, 5, NONE));
        for (int gone = 0; gone < 2; gone++) {
            int who = gone;
            Check.refused("begin, " + gone + " withdrew", Check.STATE, h -> {
                pooled(h);
                h.withdraw(0, who);
            }, h -> h.begin(0, 1, 0, 5, 0));
        }
    }

    private static void whichIsFirst() {
        Check.refused("no fencer ahead of weapon", Check.INDEX, BeginTest::pooled, h -> h.begin(9, 9, 7, 0, NONE));
        Check.refused("no pool ahead of touches", Check.INDEX, BeginTest::pooled, h -> h.begin(1, 1, 7, 0, 3));
        Check.refused("weapon ahead of the piste", Check.ARGUMENT, h -> {
            pooled(h);
            h.begin(0, 1, 0, 5, NONE);
        }, h -> h.begin(0, 1, 3, 5, NONE));
        Check.refused("not of the pool ahead of withdrew", Check.ARGUMENT, h -> {
            pooled(h);
            h.withdraw(0, 0);
        }, h -> h.begin(0, 3, 0, 5, 0));
    }
}
