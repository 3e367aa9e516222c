import java.io.IOException;
import java.lang.reflect.Method;
import java.lang.reflect.Modifier;
import java.nio.file.Files;
import java.nio.file.Path;
import java.util.Set;
import java.util.TreeSet;
import java.util.regex.Matcher;
import java.util.regex.Pattern;
import java.util.stream.Stream;

/** What README.md says: the answers beside the calls, the calls there are, and how the tests are run. */
public final class ReadmeTest {
    private static final Check CHECK = new Check("ReadmeTest");
    private static final Path SCRIPT = Path.of(".ci/run");

    public static void main(String[] args) throws IOException {
        String readme = Files.readString(Path.of("README.md"));
        calls(readme);
        constants(readme);
        tests(readme);
        commands(readme);
        Sentences runs = new Sentences(CHECK);
        runs.holds("README.md, Use", example(readme));
        runs.holds("README.md, Tests", notation(readme));
        CHECK.end();
    }

    /** The example as a run: "web.height();  // 3: why" is told "height() = 3". */
    private static String example(String readme) {
        String code = between(readme, "```java\n", "```");
        StringBuilder run = new StringBuilder();
        Set<String> called = new TreeSet<>();
        int lines = 0;
        Matcher line = Pattern.compile("(?m)^web\\.((\\w+)\\(.*\\)); +// (\\w+)(?::.*)?$").matcher(code);
        while (line.find()) {
            run.append(line.group(1)).append(" = ").append(line.group(3)).append('\n');
            called.add(line.group(2));
            lines++;
        }
        CHECK.due("README.md: lines of the example with an answer", lines, code.lines().count() - 1);
        CHECK.due("README.md: the example makes each call", called.equals(publicNames()), true);
        return run.toString();
    }

    /** The lines that show how a run is told; two spaces part them from what they mean. */
    private static String notation(String readme) {
        StringBuilder run = new StringBuilder();
        Matcher line = Pattern.compile("(?m)^    (\\w+\\(.*?\\) = .*?)(?:  .*)?$").matcher(readme);
        while (line.find()) {
            run.append(line.group(1)).append('\n');
        }
        CHECK.due("README.md: lines that show the notation", run.toString().lines().count(), 3);
        return run.toString();
    }

    private static Set<String> publicNames() {
        Set<String> names = new TreeSet<>();
        for (Method m : ChannelWeb.class.getDeclaredMethods()) {
            if (Modifier.isPublic(m.getModifiers())) {
                names.add(m.getName());
            }
        }
        return names;
    }

    private static void calls(String readme) {
        Set<String> told = new TreeSet<>();
        Matcher row = Pattern.compile("(?m)^\\| `(\\w+)\\(([^)]*)\\)` \\|").matcher(readme);
        while (row.find()) {
            told.add(row.group(1) + " " + (row.group(2).isEmpty() ? 0 : row.group(2).split(",").length));
        }
        Set<String> there = new TreeSet<>();
        for (Method m : ChannelWeb.class.getDeclaredMethods()) {
            if (Modifier.isPublic(m.getModifiers())) {
                there.add(m.getName() + " " + m.getParameterCount());
            }
        }
        CHECK.due("README.md tells of the calls " + told + ", those of the class are " + there, told.equals(there), true);
    }

    private static void constants(String readme) {
        String told = "`NONE` (" + ChannelWeb.NONE + "), `REFUSED` (" + ChannelWeb.REFUSED + ") and `FULL` (" + ChannelWeb.FULL + ")";
        CHECK.due("README.md says " + told, readme.contains(told), true);
        CHECK.due("README.md says for how many calls an object is used",
            readme.contains("at most " + View.MOST_CALLS + " calls after it has been made"), true);
    }

    private static void tests(String readme) throws IOException {
        Set<String> told = new TreeSet<>();
        Matcher row = Pattern.compile("(?m)^\\| `(\\w+Test)` \\|").matcher(readme);
        while (row.find()) {
            told.add(row.group(1) + ".java");
        }
        Set<String> there = new TreeSet<>();
        try (Stream<Path> files = Files.list(Path.of("src/test/java"))) {
            files.map(file -> file.getFileName().toString()).filter(name -> name.endsWith("Test.java")).forEach(there::add);
        }
        CHECK.due("README.md tells of the tests " + told + ", there are " + there, told.equals(there), true);
    }

    /** The script's own commands, with what its names stand for when it runs TurnTest. */
    private static void commands(String readme) throws IOException {
        CHECK.due("the script can be executed", Files.isExecutable(SCRIPT), true);
        CHECK.due("README.md names the script", readme.contains("\n    " + SCRIPT + "\n"), true);
        String script = Files.readString(SCRIPT);
        for (String places : new String[] {"src/test/java/*Test.java", "../shared/tests/*.java"}) {
            CHECK.due("the script goes through " + places, script.contains("for file in " + places + "; do\n    run_test \"$file\"\n"), true);
            CHECK.due("README.md names " + places, readme.contains("`" + places + "`"), true);
        }
        Matcher command = Pattern.compile("if ! (java.*?); then").matcher(script);
        int found = 0;
        while (command.find()) {
            String told = command.group(1).replace("\"", "").replace("$out", "build").replace("$name", "TurnTest")
                .replace("$1", "src/test/java/TurnTest.java").replace("$main", "src/main/java/ChannelWeb.java");
            CHECK.due("README.md has the command " + told, readme.contains("\n    " + told + "\n"), true);
            found++;
        }
        CHECK.due("commands with which the script runs a test", found, 2);
        CHECK.due("the script's names", script.contains("\nout=build\n") && script.contains("\nmain=src/main/java/ChannelWeb.java\n"), true);
    }

    private static String between(String text, String from, String to) {
        int start = text.indexOf(from) + from.length();
        return text.substring(start, text.indexOf(to, start));
    }
}
