import java.io.IOException;
import java.nio.file.Files;
import java.nio.file.Path;
import java.util.List;
import java.util.Set;
import java.util.TreeSet;
import java.util.regex.Pattern;
import java.util.stream.Collectors;
import java.util.stream.Stream;

/** What README.md says is so: its example prints the answers that it tells, and what it names is there. */
public final class ReadmeTest {
    private static final Path README = Path.of("README.md");
    private static final Pattern EXAMPLE = Pattern.compile("```java\n(public final class Example .*?)```", Pattern.DOTALL);
    private static final Pattern SHOWN = Pattern.compile("^ *show\\(x\\..*\\); *(// -> (-?\\d+)(:.*)?)?$", Pattern.MULTILINE);
    private static final Pattern FILE = Pattern.compile("(?<![\\w./])((\\.\\./shared|src|\\.ci)/[\\w./]*\\w)");
    private static final Pattern TEST = Pattern.compile("\\b(\\w+Test)\\b");
    private static final String[] OF_EACH_GROUP = {"link", "newCase", "rules", "may", "plead", "stands", "ends", "best", "ought", "reform", "told", "act", "tape"};

    public static void main(String[] args) {
        Checks.runAll(ReadmeTest.class);
    }

    static void theExamplePrintsTheAnswersThatStandBehindItsCalls() throws IOException, InterruptedException {
        String example = EXAMPLE.matcher(Files.readString(README)).results().map(found -> found.group(1)).findFirst().orElse("");
        List<String> due = SHOWN.matcher(example).results().map(found -> String.valueOf(found.group(2))).toList();
        List<String> got = printed(example).lines().toList();
        if (due.isEmpty() || !got.equals(due)) Checks.wrong("the example prints " + got + ", README.md tells " + due);
        for (String call : OF_EACH_GROUP) {
            if (!example.contains("show(x." + call + "(")) Checks.wrong("the example shows no call of " + call);
        }
    }

    static void theFilesThatAreNamedAreThere() throws IOException {
        for (String file : named(FILE)) {
            if (!Files.exists(Path.of(file))) Checks.wrong("there is no " + file);
        }
    }

    static void theTestsThatAreNamedAreThereAndTheOthersArePromises() throws IOException {
        Set<String> named = named(TEST);
        Set<String> there;
        try (Stream<Path> files = Files.list(Path.of("src/test/java"))) {
            there = files.map(file -> file.getFileName().toString()).filter(name -> name.endsWith("Test.java"))
                .map(name -> name.replace(".java", "")).collect(Collectors.toCollection(TreeSet::new));
        }
        for (String name : named) {
            if (!there.contains(name)) Checks.wrong("there is no " + name);
        }
        for (String name : there) {
            if (!named.contains(name) && !name.matches("Promise\\d\\d\\w+Test")) Checks.wrong("README.md does not name " + name);
        }
    }

    private static Set<String> named(Pattern pattern) throws IOException {
        return pattern.matcher(Files.readString(README)).results().map(found -> found.group(1)).collect(Collectors.toCollection(TreeSet::new));
    }

    /** As README.md says to do: compiled behind the class, and run. */
    private static String printed(String example) throws IOException, InterruptedException {
        Path dir = Files.createTempDirectory("readme");
        Path source = dir.resolve("Example.java");
        Files.writeString(source, example);
        String out = dir.toString();
        String said = told("javac", "-d", out, "src/main/java/PleasToIssue.java") + told("javac", "-d", out, "-cp", out, source.toString())
            + told("java", "-cp", out, "Example");
        try (Stream<Path> files = Files.list(dir)) {
            for (Path file : files.toList()) Files.delete(file);
        }
        Files.delete(dir);
        return said;
    }

    private static String told(String... command) throws IOException, InterruptedException {
        Process process = new ProcessBuilder(command).redirectError(ProcessBuilder.Redirect.INHERIT).start();
        String said = new String(process.getInputStream().readAllBytes());
        return process.waitFor() == 0 ? said : said + command[0] + " failed";
    }
}
