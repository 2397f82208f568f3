import java.io.IOException;
import java.nio.file.Files;
import java.nio.file.Path;
import java.util.Arrays;
import java.util.List;
import java.util.TreeSet;
import java.util.regex.Matcher;
import java.util.regex.Pattern;
import java.util.stream.Collectors;
import java.util.stream.Stream;

/** What README.md says: its example answers so, it names each test, and its commands come to the tests of .ci/run. */
final class ReadmeTest {
    /** In the shell's place of the compiler and the machine: what would be run is written down. */
    private static final String STUBS = "javac() { :; }; java() { for last; do :; done; echo \"$last\" >> \"$log\"; }; ";

    public static void main(String[] args) throws Exception {
        String readme = Files.readString(Path.of("README.md"));
        Tester t = new Tester("README.md");
        example(t, readme);
        names(t, readme);
        commands(t, readme);
        Tester.end("readme");
    }

    private static void example(Tester t, String readme) throws ReflectiveOperationException {
        Matcher calls = Pattern.compile("(?m)^x\\.(\\w+)\\((.*)\\);( +// (-?\\d+))?").matcher(readme);
        EarlyAnswers x = new EarlyAnswers();
        int compared = 0;
        while (calls.find()) {
            Object[] numbers = Arrays.stream(calls.group(2).split(", ")).map(Integer::decode).toArray();
            Class<?>[] types = new Class<?>[numbers.length];
            Arrays.fill(types, int.class);
            int got = (int) EarlyAnswers.class.getMethod(calls.group(1), types).invoke(x, numbers);
            if (calls.group(4) != null) {
                t.due(calls.group(), got, Integer.parseInt(calls.group(4)));
                compared++;
            }
        }
        t.due("answers of the example", compared, 4);
    }

    private static void names(Tester t, String readme) throws IOException {
        String listed = Pattern.compile("\\w+Test\\b").matcher(readme.substring(readme.indexOf("## Tests"))).results()
            .map(m -> m.group()).collect(Collectors.toCollection(TreeSet::new)).toString();
        String there = new TreeSet<>(testsIn("src/test/java", "Test.java")).toString();
        t.row("it names " + listed + ", there are " + there + ": alike", "1", () -> listed.equals(there) ? 1 : 0);
    }

    private static void commands(Tester t, String readme) throws Exception {
        Matcher block = Pattern.compile("(?s)```sh\\n(.*?)```").matcher(readme);
        t.due("a block of commands", block.find() ? 1 : 0, 1);
        TreeSet<String> all = new TreeSet<>(testsIn("src/test/java", "Test.java"));
        all.addAll(testsIn("../shared/tests", ".java"));
        String byHand = new TreeSet<>(runBy(block.group(1))).toString();
        String byScript = new TreeSet<>(runBy(". .ci/run")).toString();
        t.row("its commands run " + byHand + ": all", "1", () -> byHand.equals(all.toString()) ? 1 : 0);
        t.row(".ci/run runs " + byScript + ": all", "1", () -> byScript.equals(all.toString()) ? 1 : 0);
    }

    /** The classes that a script would run. */
    private static List<String> runBy(String script) throws Exception {
        Path log = Files.createTempFile("run", ".log");
        ProcessBuilder shell = new ProcessBuilder("sh", "-c", STUBS + script, ".ci/run")
            .redirectOutput(ProcessBuilder.Redirect.DISCARD).redirectError(ProcessBuilder.Redirect.DISCARD);
        shell.environment().put("log", log.toString());
        shell.start().waitFor();
        List<String> run = Files.readAllLines(log);
        Files.delete(log);
        return run;
    }

    private static List<String> testsIn(String directory, String ending) throws IOException {
        try (Stream<Path> files = Files.list(Path.of(directory))) {
            return files.map(f -> f.getFileName().toString()).filter(f -> f.endsWith(ending))
                .map(f -> f.substring(0, f.length() - ".java".length())).toList();
        }
    }
}
