import java.util.function.Consumer;
import java.util.function.Function;

/** Counts wrong answers of a test; every test ends with done(). */
final class Check {
    static final Class<? extends RuntimeException> INDEX = IndexOutOfBoundsException.class;
    static final Class<? extends RuntimeException> ARGUMENT = IllegalArgumentException.class;
    static final Class<? extends RuntimeException> STATE = IllegalStateException.class;

    private static int wrong = 0;
    private static int looked = 0;

    private Check() {
    }

    static void due(String what, long got, long want) {
        looked++;
        if (got != want) {
            report(what + " answered " + got + ", due is " + want);
        }
    }

    static void due(String what, String got, String want) {
        looked++;
        if (!got.equals(want)) {
            report(what + " answered " + got + ", due is " + want);
        }
    }

    static void report(String text) {
        wrong++;
        System.out.println(text);
    }

    /** What a call answers, or the name of what it throws. */
    static String answer(Phrasehall hall, Function<Phrasehall, Object> call) {
        try {
            return String.valueOf(call.apply(hall));
        } catch (RuntimeException e) {
            return e.getClass().getSimpleName();
        }
    }

    /**
     * The call throws just that, and changes nothing: all that the hall holds is as it was, and it goes on
     * like its twin that never got the call.
     */
    static void refused(String what, Class<? extends RuntimeException> kind,
            Consumer<Phrasehall> setup, Function<Phrasehall, Object> call) {
        Phrasehall hall = new Phrasehall();
        Phrasehall twin = new Phrasehall();
        setup.accept(hall);
        setup.accept(twin);
        String held = Inside.of(hall);
        due(what, answer(hall, call), kind.getSimpleName());
        due(what + ", is all that it holds as it was", Inside.of(hall).equals(held) ? 1 : 0, 1);
        alike(what + ", all that is told afterwards", Probe.all(hall), Probe.all(twin));
    }

    /** Rows of answers; only the first one that differs is told, as the rows are long. */
    static void alike(String what, String got, String want) {
        String[] answers = got.split(" ");
        String[] dues = want.split(" ");
        due(what + ", how many", answers.length, dues.length);
        for (int i = 0; i < Math.min(answers.length, dues.length); i++) {
            if (!answers[i].equals(dues[i])) {
                due(what + ", answer " + i, answers[i], dues[i]);
                return;
            }
        }
    }

    static void done() {
        if (wrong > 0 || looked == 0) {
            System.out.println(wrong + " wrong of " + looked);
            System.exit(1);
        }
    }
}
