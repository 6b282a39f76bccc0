import java.io.IOException;
import java.lang.reflect.Constructor;
import java.lang.reflect.Field;
import java.lang.reflect.Method;
import java.lang.reflect.Modifier;
import java.nio.file.Files;
import java.nio.file.Path;
import java.util.Arrays;
import java.util.List;
import java.util.TreeSet;
import java.util.stream.Collectors;

/** The public face: every constant, the constructor and every method as the document writes them, and nothing else. */
final class FaceTest {
    private static final String[] CONSTANTS = {
        "NONE=-1", "FOIL=0", "EPEE=1", "SABRE=2", "ATTACK=0", "LINE=1", "BEAT=2", "PARRY=3", "RIPOSTE=4",
        "REMISE=5", "MISS=6", "ON=0", "OFF=1", "GROUND=2", "NO_LAMP=0", "SINGLE=1", "OFF_TARGET=2", "DOUBLE=3",
        "TOGETHER=4", "IN_TIME=5", "BY_RIGHT=6", "YELLOW=1", "RED=2", "BLACK=3",
    };

    public static void main(String[] args) throws Exception {
        int modifiers = Phrasehall.class.getModifiers();
        Check.due("class is public", Modifier.isPublic(modifiers) ? 1 : 0, 1);
        Check.due("class is final", Modifier.isFinal(modifiers) ? 1 : 0, 1);
        checkAsTheDocumentSays();
        checkConstants();
        Constructor<?>[] constructors = Phrasehall.class.getDeclaredConstructors();
        Check.due("constructors", constructors.length, 1);
        Check.due("constructor is public", Modifier.isPublic(constructors[0].getModifiers()) ? 1 : 0, 1);
        Check.due("constructor's parameters", constructors[0].getParameterCount(), 0);
        checkInside();
        Check.done();
    }

    /** Every line of the document's face, as it stands there, and no other method. */
    private static void checkAsTheDocumentSays() throws IOException {
        String source = Files.readString(Path.of("src/main/java/Phrasehall.java")).replaceAll("\\s+", " ");
        TreeSet<String> due = new TreeSet<>();
        for (String line : face()) {
            String written = line.substring(0, line.length() - 1);
            Check.due("the class has: " + line, source.contains(written) ? 1 : 0, 1);
            if (written.contains("(") && !written.equals("public Phrasehall()")) {
                due.add(written.replaceAll("(int|long) \\w+([,)])", "$1$2"));
            }
        }
        Check.due("methods of the document", due.size(), 21);
        for (String method : methods()) {
            Check.due("the document has: " + method, due.remove(method) ? 1 : 0, 1);
        }
        Check.due("methods that the class does not have", String.join("; ", due), "");
    }

    /** The lines within the document's class. */
    private static List<String> face() throws IOException {
        List<String> lines = Files.readAllLines(Path.of("../shared/DOC.md"));
        int from = lines.indexOf("public final class Phrasehall {");
        int to = from + lines.subList(from, lines.size()).indexOf("}");
        return lines.subList(from + 1, to).stream().map(String::trim).toList();
    }

    /** As the document writes them, but for the names of the parameters. */
    private static TreeSet<String> methods() {
        TreeSet<String> found = new TreeSet<>();
        for (Method method : Phrasehall.class.getDeclaredMethods()) {
            if (!Modifier.isPrivate(method.getModifiers()) && !method.isSynthetic()) {
                String taken = namesOf(method.getParameterTypes());
                String thrown = namesOf(method.getExceptionTypes());
                found.add(Modifier.toString(method.getModifiers()) + " " + method.getReturnType() + " " + method.getName()
                        + "(" + taken + ")" + (thrown.isEmpty() ? "" : " throws " + thrown));
            }
        }
        return found;
    }

    private static String namesOf(Class<?>[] types) {
        return Arrays.stream(types).map(Class::getSimpleName).collect(Collectors.joining(", "));
    }

    @Says(in = "constants", value = {"The constants: `NONE = -1`: None. `FOIL = 0, EPEE = 1, SABRE = 2`: Weapons.",
        "`ATTACK = 0, LINE = 1, BEAT = 2, PARRY = 3, RIPOSTE = 4, REMISE = 5, MISS = 6`: Actions.",
        "`ON = 0, OFF = 1, GROUND = 2`: Targets; lamps that are ON or OFF.",
        "`NO_LAMP = 0, SINGLE = 1, OFF_TARGET = 2, DOUBLE = 3, TOGETHER = 4, IN_TIME = 5, BY_RIGHT = 6`: Reasons.",
        "`YELLOW = 1, RED = 2, BLACK = 3`: Cards."})
    private static void checkConstants() throws IllegalAccessException {
        Check.due("constants", constants().toString(), new TreeSet<>(Arrays.asList(CONSTANTS)).toString());
    }

    private static TreeSet<String> constants() throws IllegalAccessException {
        TreeSet<String> found = new TreeSet<>();
        for (Field field : Phrasehall.class.getDeclaredFields()) {
            if (!Modifier.isPrivate(field.getModifiers())) {
                Check.due(field.getName() + " is public, static and final", field.getModifiers(),
                        Modifier.PUBLIC | Modifier.STATIC | Modifier.FINAL);
                found.add(field.getName() + "=" + field.getInt(null));
            }
        }
        return found;
    }

    /** The classes inside are static and hidden; no hidden method bears the name of a public one. */
    private static void checkInside() {
        TreeSet<String> names = new TreeSet<>();
        for (Method method : Phrasehall.class.getDeclaredMethods()) {
            if (Modifier.isPublic(method.getModifiers())) {
                names.add(method.getName());
            }
        }
        for (Class<?> inside : Phrasehall.class.getDeclaredClasses()) {
            int modifiers = inside.getModifiers();
            boolean hidden = !Modifier.isPublic(modifiers) && !Modifier.isProtected(modifiers);
            Check.due(inside + " is static and hidden", hidden && Modifier.isStatic(modifiers) ? 1 : 0, 1);
            for (Method method : inside.getDeclaredMethods()) {
                Check.due(inside + "." + method.getName() + " bears a public name",
                        names.contains(method.getName()) ? 1 : 0, 0);
            }
        }
        for (Method method : Phrasehall.class.getDeclaredMethods()) {
            if (Modifier.isPrivate(method.getModifiers())) {
                Check.due(method.getName() + " bears a public name", names.contains(method.getName()) ? 1 : 0, 0);
            }
        }
    }
}
