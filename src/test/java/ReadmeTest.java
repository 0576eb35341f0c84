import java.io.IOException;
import java.nio.file.Files;
import java.nio.file.Path;
import java.util.ArrayList;
import java.util.Comparator;
import java.util.List;
import java.util.TreeSet;
import java.util.regex.Matcher;
import java.util.regex.Pattern;
import java.util.stream.Collectors;
import java.util.stream.Stream;

/** What README.md says is so: its example, its commands and its tables of tests. */
public final class ReadmeTest {
    private static final String RUN_ALL = "bash .ci/run\n";

    public static void main(String[] args) throws IOException, InterruptedException {
        String readme = Files.readString(Path.of("README.md"));
        Path room = Files.createTempDirectory("readme");
        try {
            copy(Path.of("src"), room.resolve("main/src"));
            copy(Path.of("../shared"), room.resolve("shared"));
            commands(readme, room.resolve("main"));
        } finally {
            delete(room);
        }
        runAll(readme);
        tables(readme);
        Check.finish("ReadmeTest");
    }

    /** What stands between the fences of this kind, one text for each. */
    private static List<String> blocks(String readme, String kind) {
        List<String> all = new ArrayList<>();
        Matcher m = Pattern.compile("```" + kind + "\n(.*?)```\n", Pattern.DOTALL).matcher(readme);
        while (m.find()) {
            all.add(m.group(1));
        }
        return all;
    }

    /** Each command runs in a copy of the project, the example's with what it should print. */
    private static void commands(String readme, Path project) throws IOException, InterruptedException {
        List<String> examples = blocks(readme, "java");
        Check.same("examples", examples.size(), 1);
        Files.writeString(project.resolve("Visit.java"), examples.get(0));
        Check.same("what it prints", blocks(readme, "text").size(), 1);
        int run = 0;
        for (String command : blocks(readme, "sh")) {
            if (!command.equals(RUN_ALL)) {
                run++;
                String printed = printedBy(command, project);
                if (command.contains("Visit")) {
                    Check.same("what the example prints", printed, blocks(readme, "text").get(0));
                }
            }
        }
        Check.same("commands", run, 2);
    }

    private static String printedBy(String command, Path project) throws IOException, InterruptedException {
        Path out = project.resolve("printed");
        Process all = new ProcessBuilder("bash", "-e", "-c", command).directory(project.toFile())
                .redirectError(ProcessBuilder.Redirect.INHERIT).redirectOutput(out.toFile()).start();
        Check.same("exit code of " + command, all.waitFor(), 0);
        return Files.readString(out);
    }

    /** It runs this test too, so that it is enough that it is there. */
    private static void runAll(String readme) {
        Check.same("the command for all", blocks(readme, "sh").contains(RUN_ALL), true);
        Check.same("what it runs", Files.isExecutable(Path.of(".ci/run")), true);
    }

    private static void tables(String readme) throws IOException {
        TreeSet<String> told = new TreeSet<>();
        Matcher m = Pattern.compile("^\\| `([A-Za-z]+Test)` \\|", Pattern.MULTILINE).matcher(readme);
        while (m.find()) {
            Check.same(m.group(1) + " is told once", told.add(m.group(1)), true);
        }
        try (Stream<Path> all = Files.list(Path.of("src/test/java"))) {
            Check.same("the tests", told, all.map(p -> p.getFileName().toString()).filter(n -> n.endsWith("Test.java"))
                    .map(n -> n.replace(".java", "")).collect(Collectors.toCollection(TreeSet::new)));
        }
        for (Check.Call call : new Check.Call[] {() -> new ChoirStalls().count(14), () -> new ChoirStalls().pass(0),
            ReadmeTest::feedTooMuch}) {
            Check.same("it tells of the exception", readme.contains("`" + Check.answerOf(call) + "`"), true);
        }
    }

    private static Object feedTooMuch() {
        ChoirStalls x = new ChoirStalls();
        for (int i = 0; i < 101; i++) {
            x.feed(0, 0, 0, 0, 0);
        }
        return "nothing";
    }

    private static void copy(Path from, Path to) throws IOException {
        try (Stream<Path> all = Files.walk(from)) {
            for (Path path : all.collect(Collectors.toList())) {
                Path there = to.resolve(from.relativize(path).toString());
                if (Files.isDirectory(path)) {
                    Files.createDirectories(there);
                } else {
                    Files.write(there, Files.readAllBytes(path));
                }
            }
        }
    }

    private static void delete(Path room) throws IOException {
        try (Stream<Path> all = Files.walk(room)) {
            for (Path path : all.sorted(Comparator.reverseOrder()).collect(Collectors.toList())) {
                Files.delete(path);
            }
        }
    }
}
