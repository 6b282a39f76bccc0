import java.io.IOException;
import java.io.OutputStream;
import java.nio.file.Files;
import java.nio.file.Path;
import java.util.ArrayList;
import java.util.List;
import java.util.TreeSet;
import java.util.regex.Matcher;
import java.util.regex.Pattern;
import java.util.stream.Collectors;
import javax.tools.ToolProvider;

/** README.md: its example is compiled by its own command and answers as it says, and it names every test. */
final class ReadmeTest {
    private static final Path PAGE = Path.of("README.md");
    /** A statement, then what it answers or throws; the words behind a colon only explain. */
    private static final Pattern TOLD = Pattern.compile("(?:int (\\w+) = )?(.*);\\s+// (is|throws) ([^:]+)(?::.*)?");
    private static final Pattern LISTED = Pattern.compile("\\| `(\\w+)` \\|.*");
    private static final String COMPILE = "javac -d out src/main/java/Phrasehall.java Yours.java";
    private static final String COMPILE_TESTS = "javac -d out src/main/java/Phrasehall.java src/test/java/*.java";
    private static final String[] CALLS = {"fencer", "begin", "act", "hit", "judge", "card", "clock", "end", "seed",
        "pool", "withdraw", "tableau", "wins", "lamp", "holder", "reason", "ofBout", "ofPool", "ofPoolAnew", "rank",
        "meets"};

    public static void main(String[] args) throws IOException, InterruptedException {
        List<String> page = Files.readAllLines(PAGE);
        List<String> example = blocks(page, "```java");
        List<String> commands = blocks(page, "```sh");
        Check.due("lines of the example", example.size() > 20 ? 1 : 0, 1);
        for (String call : CALLS) {
            Check.due("the example shows " + call, String.join(" ", example).contains("hall." + call + "(") ? 1 : 0, 1);
        }
        Check.due("commands", String.join("; ", commands),
                COMPILE + "; java -cp out Yours; " + COMPILE_TESTS + "; java -cp out ClockTest");
        runExample(example);
        Check.due("tests that are listed", String.join(" ", listed(page)), String.join(" ", testFiles()));
        Check.done();
    }

    private static List<String> blocks(List<String> page, String mark) {
        List<String> found = new ArrayList<>();
        boolean inside = false;
        for (String line : page) {
            if (line.startsWith("```")) {
                inside = line.equals(mark);
            } else if (inside) {
                found.add(line);
            }
        }
        return found;
    }

    private static void runExample(List<String> example) throws IOException, InterruptedException {
        Path folder = Files.createTempDirectory("readme");
        Path yours = folder.resolve("Yours.java");
        Path out = folder.resolve("out");
        Files.createDirectories(out);
        Files.writeString(yours, program(example));
        List<String> given = new ArrayList<>();
        for (String word : COMPILE.split(" ")) {
            given.add(word.equals("out") ? out.toString() : word.equals("Yours.java") ? yours.toString() : word);
        }
        given.remove(0);
        int compiled = ToolProvider.getSystemJavaCompiler().run(null, OutputStream.nullOutputStream(), System.out,
                given.toArray(new String[0]));
        Check.due("the example compiles, exit code", compiled, 0);
        if (compiled == 0) {
            String java = Path.of(System.getProperty("java.home"), "bin", "java").toString();
            Process run = new ProcessBuilder(java, "-cp", out.toString(), "Yours").inheritIO().start();
            Check.due("the example answers as it says, exit code", run.waitFor(), 0);
        }
        remove(folder);
    }

    private static void remove(Path folder) throws IOException {
        List<Path> files;
        try (var walked = Files.walk(folder)) {
            files = walked.collect(Collectors.toCollection(ArrayList::new));
        }
        for (int i = files.size() - 1; i >= 0; i--) {
            Files.delete(files.get(i));
        }
    }

    /** The example as the body of a main that looks at every answer that the page tells. */
    private static String program(List<String> example) {
        StringBuilder text = new StringBuilder("public final class Yours {\n");
        text.append("static int wrong = 0;\n");
        text.append("static void due(String call, long got, long want) { if (got != want) { wrong++;\n");
        text.append("System.out.println(\"README.md: \" + call + \" answered \" + got + \", told is \" + want); } }\n");
        text.append("static void thrown(String call, String got, String want) { if (!got.equals(want)) { wrong++;\n");
        text.append("System.out.println(\"README.md: \" + call + \" threw \" + got + \", told is \" + want); } }\n");
        text.append("public static void main(String[] args) {\n");
        for (String line : example) {
            text.append(looked(line)).append('\n');
        }
        return text.append("System.exit(wrong > 0 ? 1 : 0);\n}\n}\n").toString();
    }

    private static String looked(String line) {
        Matcher told = TOLD.matcher(line);
        if (!told.matches()) {
            boolean tellsNothing = line.equals("Phrasehall hall = new Phrasehall();") || line.startsWith("hall.seed(");
            Check.due("tells what it answers: " + line, tellsNothing ? 1 : 0, 1);
            return line;
        }
        String call = told.group(2);
        String quoted = "\"" + call + "\", ";
        String want = told.group(4).trim();
        if (told.group(3).equals("throws")) {
            return "{ String got = \"nothing\"; try { " + call + "; } catch (RuntimeException e) {"
                    + " got = e.getClass().getSimpleName(); } thrown(" + quoted + "got, \"" + want + "\"); }";
        }
        if (told.group(1) == null) {
            return "due(" + quoted + call + ", " + want + ");";
        }
        return "int " + told.group(1) + " = " + call + "; due(" + quoted + told.group(1) + ", " + want + ");";
    }

    private static TreeSet<String> listed(List<String> page) {
        TreeSet<String> names = new TreeSet<>();
        for (String line : page) {
            Matcher row = LISTED.matcher(line);
            if (row.matches()) {
                names.add(row.group(1));
            }
        }
        return names;
    }

    private static TreeSet<String> testFiles() throws IOException {
        try (var files = Files.list(Path.of("src/test/java"))) {
            return files.map(file -> file.getFileName().toString()).filter(name -> name.endsWith("Test.java"))
                    .map(name -> name.substring(0, name.length() - ".java".length()))
                    .collect(Collectors.toCollection(TreeSet::new));
        }
    }
}
