import java.io.IOException;
import java.lang.reflect.Field;
import java.lang.reflect.Method;
import java.lang.reflect.Modifier;
import java.nio.charset.StandardCharsets;
import java.nio.file.Files;
import java.nio.file.Path;
import java.util.Set;
import java.util.regex.Matcher;
import java.util.regex.Pattern;

/** Those rules of LANGUAGE.md that can be seen in the text of the class. */
final class LanguageTest {
    private static final String[] FORBIDDEN = {
        "->", "::", "\\bimport\\b", "\\bpackage\\b", "\\bfinally\\b", "\\bsynchronized\\b", "\\bassert\\b",
        "\\btry\\b", "\\bcatch\\b", "\\bhashCode\\b", "\\btoString\\b", "\\bequals\\b", "Exact\\b", "\\brecord\\b",
        "\\bRandom\\b", "\\bThread\\b", "\\bSystem\\b", "\\bprotected\\b", "\\bObject\\b", "\\bdouble\\b", "\\bfloat\\b",
        "@", "static\\s*\\{",
    };
    private static final Pattern THROWN = Pattern.compile("throw\\s+([^;]*);");
    private static final Pattern ALLOWED = Pattern.compile(
            "new (IllegalState|IllegalArgument|IndexOutOfBounds)Exception\\((\"[^\"]*\")?\\)");
    private static final Pattern STATIC_FIELD = Pattern.compile("\\bstatic\\b(?! final class)[^({;]*=");
    private static final Set<Class<?>> CONSTANT_TYPES = Set.of(int.class, long.class, boolean.class, char.class,
            String.class);
    private static final Pattern METHOD = Pattern.compile("^ {4,8}[a-zA-Z][^=;]*\\([^;]*$");

    public static void main(String[] args) throws IOException {
        String text = Files.readString(Path.of("src/main/java/Phrasehall.java"), StandardCharsets.UTF_8);
        checkSigns(text);
        String code = withoutComments(text);
        for (String forbidden : FORBIDDEN) {
            Check.due("places with " + forbidden, countOf(Pattern.compile(forbidden), code), 0);
        }
        Matcher thrown = THROWN.matcher(code);
        while (thrown.find()) {
            Check.due("may be thrown: " + thrown.group(1), ALLOWED.matcher(thrown.group(1)).matches() ? 1 : 0, 1);
        }
        Matcher field = STATIC_FIELD.matcher(code);
        while (field.find()) {
            Check.due("is final: " + field.group(), field.group().contains("static final") ? 1 : 0, 1);
        }
        checkMethodLengths(code.split("\n"));
        checkTexts(code);
        checkCounts();
        Check.done();
    }

    private static void checkSigns(String text) {
        for (int i = 0; i < text.length(); i++) {
            char sign = text.charAt(i);
            if (sign > 126 || (sign < 32 && sign != '\n')) {
                Check.report("sign " + (int) sign + " at " + i);
            }
        }
    }

    /** Texts are joined by StringBuilder alone, and no text is compared by == or !=. */
    private static void checkTexts(String code) {
        Check.due("texts joined by +", countOf(Pattern.compile("\"\\s*\\+|\\+\\s*\""), code), 0);
        Check.due("texts compared by == or !=", countOf(Pattern.compile("[=!]=\\s*\"|\"\\s*[=!]="), code), 0);
    }

    /** Rule 11: the classes of the file, their fields beside constants, and the parameters of a method. */
    private static void checkCounts() {
        Class<?>[] inside = Phrasehall.class.getDeclaredClasses();
        Check.due("some twelve classes", inside.length + 1 <= 12 ? 1 : 0, 1);
        checkCounts(Phrasehall.class);
        for (Class<?> one : inside) {
            checkCounts(one);
            Check.due("classes inside " + one.getName(), one.getDeclaredClasses().length, 0);
        }
    }

    private static void checkCounts(Class<?> one) {
        int fields = 0;
        for (Field field : one.getDeclaredFields()) {
            boolean constant = Modifier.isStatic(field.getModifiers());
            fields += constant ? 0 : 1;
            Check.due(one.getName() + "." + field.getName() + " may be static",
                    !constant || CONSTANT_TYPES.contains(field.getType()) ? 1 : 0, 1);
        }
        Check.due("some twenty fields of " + one.getName(), fields <= 20 ? 1 : 0, 1);
        for (Method method : one.getDeclaredMethods()) {
            Check.due("parameters of " + method.getName(), method.getParameterCount() <= 7 ? 1 : 0, 1);
        }
    }

    private static String withoutComments(String text) {
        return text.replaceAll("(?s)/\\*.*?\\*/", "").replaceAll("//[^\n]*", "");
    }

    private static int countOf(Pattern pattern, String text) {
        int count = 0;
        Matcher matcher = pattern.matcher(text);
        while (matcher.find()) {
            count++;
        }
        return count;
    }

    private static void checkMethodLengths(String[] lines) {
        int from = -1;
        for (int i = 0; i < lines.length; i++) {
            if (METHOD.matcher(lines[i]).find()) {
                from = i;
            } else if (from >= 0 && lines[i].matches(" {4,8}}")) {
                Check.due("short enough: " + lines[from].trim(), i - from <= 60 ? 1 : 0, 1);
                from = -1;
            }
        }
    }
}
