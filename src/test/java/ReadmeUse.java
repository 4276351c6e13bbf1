import java.io.File;
import java.net.URL;
import java.net.URLClassLoader;
import java.nio.file.Files;
import java.nio.file.Path;
import java.util.ArrayList;
import java.util.Comparator;
import java.util.List;
import java.util.regex.Matcher;
import java.util.regex.Pattern;
import java.util.stream.Stream;
import javax.tools.ToolProvider;

/**
 * Runs the Java that stands in README.md as it stands there: each of its calls must answer what is written behind it.
 * A block with static in it is a method that the others use; each other block is a run of its own.
 */
public final class ReadmeUse {
    private static final Check CHECK = new Check();
    private static final String TEXT = "\"(?:[^\"\\\\]|\\\\.)*\"";
    private static final Pattern ANSWERED = Pattern.compile(
            "(\\S.*);\\s+// (true|false|-?\\d+|'.'|" + TEXT + "|[A-Z]\\w*Exception)(?:: (" + TEXT + ")|: .*)?");
    private static final Pattern UNANSWERED = Pattern.compile("KeySteward \\w+ = new KeySteward\\(\\);"
            + "|steward\\.fuse\\(-?\\d+\\);(?:\\s+// .*)?");
    private static final String FACE = "feed end send open isOpen out outAt take pass now fuse crash restart rewrite "
            + "log logAt tear isUp total";

    private static List<String> blocks(String text) {
        List<String> all = new ArrayList<>();
        Matcher found = Pattern.compile("(?s)```java\n(.*?)```").matcher(text);
        while (found.find()) {
            all.add(found.group(1));
        }
        return all;
    }

    private static String quoted(String text) {
        return "\"" + text.replace("\\", "\\\\").replace("\"", "\\\"") + "\"";
    }

    /** A line of the README as one of the program that tries it. */
    private static String tried(String line) {
        Matcher answered = ANSWERED.matcher(line);
        if (line.isBlank() || UNANSWERED.matcher(line).matches()) {
            return line;
        }
        if (!answered.matches()) {
            CHECK.due("README.md has a call with its answer in " + line, false, true);
            return "";
        }
        String want = answered.group(2);
        String call = "due(" + quoted(line) + ", () -> " + answered.group(1) + ", "
                + (want.endsWith("Exception") ? quoted(want) : want) + ");";
        // A number with a text behind it tells how long that is.
        String text = answered.group(3);
        return text == null ? call : call + "due(" + quoted(line) + ", () -> " + text + ".length(), " + want + ");";
    }

    private static String program(List<String> blocks) {
        StringBuilder methods = new StringBuilder();
        StringBuilder run = new StringBuilder();
        for (String block : blocks) {
            if (block.contains("\nstatic ") || block.startsWith("static ")) {
                methods.append(block);
                continue;
            }
            run.append("{\n");
            for (String line : block.split("\n")) {
                run.append(tried(line)).append("\n");
            }
            run.append("}\n");
        }
        return "public class Example implements Runnable {\n"
                + "interface Call { Object answer(); }\n"
                + "static void due(String line, Call call, Object want) {\n"
                + "    Object got;\n"
                + "    try { got = call.answer(); }\n"
                + "    catch (RuntimeException e) { got = e.getClass().getSimpleName(); }\n"
                + "    if (want instanceof Character) { want = (int) (Character) want; }\n"
                + "    if (got instanceof Long) { got = (int) (long) (Long) got; }\n"
                + "    ReadmeUse.due(line, got, want);\n"
                + "}\n" + methods + "public void run() {\n" + run + "}\n}\n";
    }

    /** Called by the program that is made of the README. */
    public static void due(String line, Object got, Object want) {
        CHECK.due("README.md: " + line, got, want);
        tries++;
    }

    private static int tries;

    private static void run(String program, Path place) throws Exception {
        Path source = place.resolve("Example.java");
        Files.writeString(source, program);
        int failed = ToolProvider.getSystemJavaCompiler().run(null, null, null, "-nowarn", "-cp",
                System.getProperty("java.class.path"), "-d", place.toString(), source.toString());
        CHECK.due("the Java of README.md compiles", failed, 0);
        if (failed == 0) {
            try (URLClassLoader loader = new URLClassLoader(new URL[] {place.toUri().toURL()},
                    ReadmeUse.class.getClassLoader())) {
                ((Runnable) loader.loadClass("Example").getDeclaredConstructor().newInstance()).run();
            }
        }
    }

    /** Every method of the face is used, and every file that is told is there. */
    private static void tellsAll(String text, List<String> blocks) {
        String all = String.join("\n", blocks);
        for (String name : FACE.split(" ")) {
            CHECK.due("README.md uses " + name, all.contains("steward." + name + "("), true);
        }
        Matcher path = Pattern.compile("`((?:src|\\.ci|support)/[\\w/.]*\\w)`").matcher(text);
        while (path.find()) {
            String name = path.group(1).startsWith("support/") ? "src/test/java/" + path.group(1) : path.group(1);
            CHECK.due("there is " + name, Files.exists(Path.of(name)), true);
        }
        CHECK.due("README.md says how its tests are run", text.contains("\n    .ci/run\n"), true);
        for (File file : new File("src/test/java").listFiles()) {
            String name = file.getName().replace(".java", "");
            boolean told = text.contains("`" + name + "`")
                    || name.startsWith("SentencesOf") && text.contains("`SentencesOf...`");
            CHECK.due("README.md tells the test " + name, file.isDirectory() || told, true);
        }
    }

    public static void main(String[] args) throws Exception {
        String text = Files.readString(Path.of("README.md"));
        List<String> blocks = blocks(text);
        Path place = Files.createTempDirectory("readme");
        run(program(blocks), place);
        CHECK.due("README.md has many calls with answers", tries >= 40, true);
        tellsAll(text, blocks);
        try (Stream<Path> files = Files.walk(place)) {
            files.sorted(Comparator.reverseOrder()).map(Path::toFile).forEach(File::delete);
        }
        CHECK.end();
    }
}
