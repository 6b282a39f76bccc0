import java.lang.reflect.Constructor;
import java.lang.reflect.Field;
import java.lang.reflect.Method;
import java.lang.reflect.Modifier;
import java.util.Arrays;
import java.util.TreeSet;

/** The public face: every constant, the constructor and every method, and nothing else. */
final class FaceTest {
    private static final String INDEX = "IndexOutOfBoundsException";
    private static final String ARGUMENT = "IllegalArgumentException";
    private static final String STATE = "IllegalStateException";

    private static final String[] METHODS = {
        "int fencer(0) " + STATE,
        "int begin(5) " + INDEX + " " + ARGUMENT + " " + STATE,
        "int act(3) " + ARGUMENT + " " + STATE,
        "int hit(4) " + ARGUMENT + " " + STATE,
        "int judge(0) " + STATE,
        "int card(2) " + ARGUMENT + " " + STATE,
        "int clock(1) " + ARGUMENT + " " + STATE,
        "int end(0) " + STATE,
        "void seed(1) " + ARGUMENT,
        "int pool(1) " + ARGUMENT + " " + STATE,
        "int withdraw(2) " + INDEX + " " + STATE,
        "int tableau(1) " + INDEX + " " + STATE,
        "int wins(3) " + INDEX + " " + ARGUMENT + " " + STATE,
        "int lamp(1) " + ARGUMENT,
        "int holder(0)",
        "int reason(0)",
        "int ofBout(2) " + INDEX + " " + ARGUMENT,
        "int ofPool(3) " + INDEX + " " + ARGUMENT,
        "int ofPoolAnew(3) " + INDEX + " " + ARGUMENT,
        "int rank(2) " + INDEX,
        "int meets(3) " + INDEX + " " + ARGUMENT,
    };

    private static final String[] CONSTANTS = {
        "NONE=-1", "FOIL=0", "EPEE=1", "SABRE=2", "ATTACK=0", "LINE=1", "BEAT=2", "PARRY=3", "RIPOSTE=4",
        "REMISE=5", "MISS=6", "ON=0", "OFF=1", "GROUND=2", "NO_LAMP=0", "SINGLE=1", "OFF_TARGET=2", "DOUBLE=3",
        "TOGETHER=4", "IN_TIME=5", "BY_RIGHT=6", "YELLOW=1", "RED=2", "BLACK=3",
    };

    public static void main(String[] args) throws Exception {
        int modifiers = Phrasehall.class.getModifiers();
        Check.due("class is public", Modifier.isPublic(modifiers) ? 1 : 0, 1);
        Check.due("class is final", Modifier.isFinal(modifiers) ? 1 : 0, 1);
        Check.due("methods", methods().toString(), new TreeSet<>(Arrays.asList(METHODS)).toString());
        checkConstants();
        Constructor<?>[] constructors = Phrasehall.class.getDeclaredConstructors();
        Check.due("constructors", constructors.length, 1);
        Check.due("constructor is public", Modifier.isPublic(constructors[0].getModifiers()) ? 1 : 0, 1);
        Check.due("constructor's parameters", constructors[0].getParameterCount(), 0);
        checkInside();
        Check.done();
    }

    private static TreeSet<String> methods() {
        TreeSet<String> found = new TreeSet<>();
        for (Method method : Phrasehall.class.getDeclaredMethods()) {
            if (Modifier.isPrivate(method.getModifiers()) || method.isSynthetic()) {
                continue;
            }
            StringBuilder text = new StringBuilder();
            text.append(method.getReturnType()).append(' ').append(method.getName());
            text.append('(').append(method.getParameterCount()).append(')');
            for (Class<?> thrown : method.getExceptionTypes()) {
                text.append(' ').append(thrown.getSimpleName());
            }
            found.add(text.toString());
        }
        return found;
    }

    @Says(in = "constants", value = {"The constants: `NONE = -1`: None. `FOIL = 0, EPEE = 1, SABRE = 2`: Weapons.",
        "`ATTACK = 0, LINE = 1, BEAT = 2, PARRY = 3, RIPOSTE = 4, REMISE = 5, MISS = 6`: Actions.",
        "`ON = 0, OFF = 1, GROUND = 2`: Targets; lamps that are ON or OFF.",
        "`NO_LAMP = 0, SINGLE = 1, OFF_TARGET = 2, DOUBLE = 3, TOGETHER = 4, IN_TIME = 5, BY_RIGHT = 6`: Reasons.",
        "`YELLOW = 1, RED = 2, BLACK = 3`: Cards."})
    private static void checkConstants() throws IllegalAccessException {
        Check.due("constants", constants().toString(), new TreeSet<>(Arrays.asList(CONSTANTS)).toString());
    }

    private static TreeSet<String> constants() throws IllegalAccessException {
        TreeSet<String> found = new TreeSet<>();
        for (Field field : Phrasehall.class.getDeclaredFields()) {
            if (!Modifier.isPrivate(field.getModifiers())) {
                Check.due(field.getName() + " is public, static and final", field.getModifiers(),
                        Modifier.PUBLIC | Modifier.STATIC | Modifier.FINAL);
                found.add(field.getName() + "=" + field.getInt(null));
            }
        }
        return found;
    }

    /** The classes inside are static and hidden; no hidden method bears the name of a public one. */
    private static void checkInside() {
        TreeSet<String> names = new TreeSet<>();
        for (Method method : Phrasehall.class.getDeclaredMethods()) {
            if (Modifier.isPublic(method.getModifiers())) {
                names.add(method.getName());
            }
        }
        for (Class<?> inside : Phrasehall.class.getDeclaredClasses()) {
            int modifiers = inside.getModifiers();
            boolean hidden = !Modifier.isPublic(modifiers) && !Modifier.isProtected(modifiers);
            Check.due(inside + " is static and hidden", hidden && Modifier.isStatic(modifiers) ? 1 : 0, 1);
            Check.due(inside + " has at most 20 fields", inside.getDeclaredFields().length <= 20 ? 1 : 0, 1);
            for (Method method : inside.getDeclaredMethods()) {
                Check.due(inside + "." + method.getName() + " bears a public name",
                        names.contains(method.getName()) ? 1 : 0, 0);
            }
        }
        for (Method method : Phrasehall.class.getDeclaredMethods()) {
            if (Modifier.isPrivate(method.getModifiers())) {
                Check.due(method.getName() + " bears a public name", names.contains(method.getName()) ? 1 : 0, 0);
            }
        }
    }
}
