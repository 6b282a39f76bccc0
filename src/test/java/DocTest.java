import java.io.IOException;
import java.lang.reflect.Method;
import java.nio.file.Files;
import java.nio.file.Path;
import java.util.LinkedHashMap;
import java.util.List;
import java.util.Map;
import java.util.Set;
import java.util.TreeSet;
import java.util.regex.Matcher;
import java.util.regex.Pattern;

/** Every word of the document's terms and promises is quoted by a test, as it stands there, and that test is run. */
final class DocTest {
    private static final Path DOCUMENT = Path.of("../shared/DOC.md");
    private static final Path TESTS = Path.of("src/test/java");
    private static final Set<String> PLAIN_HEADINGS = Set.of("Bouts, phrases", "Cards, clocks", "Pools, tableaux");
    private static final Pattern MARKED = Pattern.compile("#+ (?:Promise \\d+: )?(.*)");
    private static final Pattern SIGNATURE = Pattern.compile("`(?:int |void )?\\w+\\(.*?`: ");

    /** The words of a section, and which of them are quoted. */
    private static final class Section {
        final StringBuilder words = new StringBuilder();
        boolean[] quoted;
    }

    private static final Map<String, Section> SECTIONS = new LinkedHashMap<>();

    public static void main(String[] args) throws IOException, ReflectiveOperationException {
        read(Files.readAllLines(DOCUMENT));
        Check.due("sections", SECTIONS.size(), 1 + 6 + 1 + 22);
        for (String test : testNames()) {
            String source = Files.readString(TESTS.resolve(test + ".java"));
            for (Method method : Class.forName(test).getDeclaredMethods()) {
                Says[] quotes = method.getAnnotationsByType(Says.class);
                if (quotes.length > 0) {
                    Check.due(test + "." + method.getName() + " is called", isCalled(source, method.getName()) ? 1 : 0, 1);
                }
                for (Says quote : quotes) {
                    mark(test + "." + method.getName(), quote);
                }
            }
        }
        SECTIONS.forEach(DocTest::lookForUnquoted);
        Check.done();
    }

    private static TreeSet<String> testNames() throws IOException {
        TreeSet<String> names = new TreeSet<>();
        try (var files = Files.list(TESTS)) {
            files.map(file -> file.getFileName().toString()).filter(name -> name.endsWith("Test.java"))
                    .forEach(name -> names.add(name.substring(0, name.length() - ".java".length())));
        }
        return names;
    }

    private static void read(List<String> lines) {
        int from = lines.indexOf("## Terms");
        int to = lines.indexOf("## Not promised");
        String heading = "";
        for (String line : lines.subList(from, to)) {
            Matcher marked = MARKED.matcher(line);
            if (marked.matches()) {
                heading = marked.group(1);
            } else if (PLAIN_HEADINGS.contains(line)) {
                heading = line;
            } else if (line.startsWith("Ahead of the calls") || line.isBlank()) {
                continue;
            } else {
                heading = line.startsWith("The constants:") ? "constants" : heading;
                Section section = SECTIONS.computeIfAbsent(heading, name -> new Section());
                section.words.append(SIGNATURE.matcher(line).replaceFirst("")).append(' ');
            }
        }
        for (Section section : SECTIONS.values()) {
            section.quoted = new boolean[section.words.length()];
        }
    }

    private static boolean isCalled(String source, String name) {
        return source.split("\\b" + name + "\\(|::" + name + "\\b", -1).length > 2;
    }

    private static void mark(String test, Says quote) {
        Section section = SECTIONS.get(quote.in());
        for (String words : quote.value()) {
            int at = section == null ? -1 : section.words.indexOf(words);
            Check.due(test + " quotes what stands in " + quote.in() + ": " + words, at >= 0 ? 1 : 0, 1);
            for (int i = 0; at >= 0 && i < words.length(); i++) {
                section.quoted[at + i] = true;
            }
        }
    }

    private static void lookForUnquoted(String heading, Section section) {
        StringBuilder left = new StringBuilder();
        for (int i = 0; i < section.words.length(); i++) {
            left.append(section.quoted[i] ? '|' : section.words.charAt(i));
        }
        for (String run : left.toString().split("\\|+")) {
            if (run.matches(".*\\w.*")) {
                Check.report("no test quotes, of " + heading + ": " + run.trim());
            }
        }
    }
}
