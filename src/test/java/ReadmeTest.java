import java.io.File;
import java.io.IOException;
import java.nio.file.Files;
import java.nio.file.Path;
import java.util.List;
import java.util.regex.Matcher;
import java.util.regex.Pattern;
import java.util.stream.Collectors;
import java.util.stream.Stream;

/** What README.md says of the use of the class is so: its example prints what it says, and it names each act. */
public final class ReadmeTest {
    private static final Checks checks = new Checks("ReadmeTest");

    private ReadmeTest() { }

    public static void main(String[] args) throws Exception {
        String readme = Files.readString(Path.of("README.md"));
        example(block(readme, "java"), block(readme, "text"));
        namesEachAct(readme);
        namesEachFinding(readme);
        namesEachTest(readme);
        checks.end();
    }

    /** What stands between the fences of the first block of a kind. */
    private static String block(String readme, String kind) {
        Matcher matcher = Pattern.compile("(?s)\n```" + kind + "\n(.*?\n)```\n").matcher(readme);
        boolean isThere = matcher.find();
        checks.dueTrue("a block of " + kind, isThere);
        return isThere ? matcher.group(1) : "";
    }

    private static void example(String source, String due) throws IOException, InterruptedException {
        checks.part("the example");
        Path out = Files.createTempDirectory("readme");
        try {
            Path file = Files.writeString(out.resolve("Example.java"), source);
            String own = System.getProperty("java.class.path");
            checks.due("javac", run(out, "javac", "-Xlint:all", "-Werror", "-cp", own, "-d", out.toString(),
                file.toString()), 0);
            checks.due("java", run(out, "java", "-cp", own + File.pathSeparator + out, "Example"), 0);
            checkLines(Files.readString(printed(out)).lines().collect(Collectors.toList()),
                due.lines().collect(Collectors.toList()));
        } finally {
            remove(out);
        }
    }

    private static int run(Path out, String... command) throws IOException, InterruptedException {
        return new ProcessBuilder(command).redirectErrorStream(true).redirectOutput(printed(out).toFile())
            .start().waitFor();
    }

    private static Path printed(Path out) {
        return out.resolve("printed");
    }

    private static void checkLines(List<String> printed, List<String> due) {
        checks.due("how many lines", printed.size(), due.size());
        for (int i = 0; i < Math.min(printed.size(), due.size()); i++) {
            checks.dueTrue(due.get(i) + " (it prints " + printed.get(i) + ")", due.get(i).equals(printed.get(i)));
        }
    }

    private static void remove(Path directory) throws IOException {
        for (Path file : filesOf(directory)) Files.delete(file);
        Files.delete(directory);
    }

    private static List<Path> filesOf(Path directory) throws IOException {
        try (Stream<Path> files = Files.list(directory)) {
            return files.sorted().collect(Collectors.toList());
        }
    }

    private static void namesEachAct(String readme) throws IOException {
        checks.part("the acts");
        Matcher matcher = Pattern.compile("    public (?:int|long) (\\w+)\\((.*)\\);")
            .matcher(Files.readString(Path.of("../shared/DOC.md")));
        int acts = 0;
        while (matcher.find()) {
            acts++;
            String act = matcher.group(1) + "(" + matcher.group(2).replaceAll("int ", "") + ")";
            checks.dueTrue("it names " + act, readme.contains("`" + act + "`"));
        }
        checks.due("how many acts", acts, 41);
    }

    private static void namesEachFinding(String readme) {
        checks.part("the findings");
        String[] names = {"BEYOND", "FULL", "KIND", "NONE", "STATE", "MISSING", "SIZE"};
        for (int which = 0; which < names.length; which++) {
            String begin = "| " + (Checks.BEYOND - which) + " | " + names[which] + ": ";
            Pattern row = Pattern.compile(Pattern.quote(begin) + "[^|]* \\| " + which + " \\|");
            checks.dueTrue("it names " + names[which], row.matcher(readme).find());
        }
    }

    private static void namesEachTest(String readme) throws IOException {
        checks.part("the tests");
        for (Path file : filesOf(Path.of("src/test/java"))) {
            String name = file.getFileName().toString().replace(".java", "");
            if (name.endsWith("Test")) checks.dueTrue("it names " + name, readme.contains("- `" + name + "`: "));
        }
    }
}
