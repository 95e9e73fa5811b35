import java.io.IOException;
import java.nio.charset.StandardCharsets;
import java.nio.file.Files;
import java.nio.file.Path;
import java.util.ArrayList;
import java.util.List;
import java.util.regex.Matcher;
import java.util.regex.Pattern;
import java.util.stream.Collectors;
import java.util.stream.Stream;

/** What README.md says of the use and the tests, tried as it stands there. */
public final class ReadmeTest {
    private static final Check CHECK = new Check("ReadmeTest");
    private static final Path TRIED_IN = Path.of("build/readme");
    private static final Pattern BLOCK = Pattern.compile("(?ms)^```\\w*\n(.*?)^```$");
    /** A line that prints; behind it what it prints, up to a colon. */
    private static final Pattern PRINTED = Pattern.compile("println\\(.*\\); +// ([^:\n]+)");

    private final String text;

    private ReadmeTest(String text) {
        this.text = text;
    }

    public static void main(String[] args) throws IOException, InterruptedException {
        ReadmeTest readme = new ReadmeTest(Files.readString(Path.of("README.md"), StandardCharsets.UTF_8));
        readme.tryProgram();
        readme.tryOneTest();
        readme.tryRun();
        readme.namesEachTest();
        CHECK.close();
    }

    /** The blocks between ``` in a section. */
    private List<String> blocksOf(String heading) {
        int from = text.indexOf("\n## " + heading + "\n") + 1;
        int to = text.indexOf("\n## ", from);
        Matcher block = BLOCK.matcher(text.substring(from, to < 0 ? text.length() : to));
        List<String> blocks = new ArrayList<>();
        while (block.find()) {
            blocks.add(block.group(1));
        }
        return blocks;
    }

    private void tryProgram() throws IOException, InterruptedException {
        List<String> blocks = blocksOf("Use");
        String program = blocks.get(0);
        List<String> due = new ArrayList<>();
        Matcher printed = PRINTED.matcher(program);
        while (printed.find()) {
            due.add(printed.group(1).strip());
        }
        CHECK.due("lines that print and tell what", due.size(), program.split("println").length - 1);
        CHECK.due("the program", output(folderWith(program, "plain", ""), blocks.get(1)), due);
        CHECK.due("in a package", output(folderWith(program, "package", "package office;\n"), blocks.get(2)), due);
    }

    /** The program beside a copy of the class, as the README asks. */
    private static Path folderWith(String program, String name, String head) throws IOException {
        Path folder = Files.createDirectories(TRIED_IN.resolve(name));
        Files.writeString(folder.resolve("Visit.java"), head + program);
        Files.writeString(folder.resolve("OpenFloors.java"), head + Files.readString(FaceTest.SOURCE));
        return folder;
    }

    private static List<String> output(Path folder, String commands) throws IOException, InterruptedException {
        Process shell = new ProcessBuilder("sh", "-e", "-c", commands).directory(folder.toFile())
                .redirectErrorStream(true).start();
        shell.getOutputStream().close();
        String output = new String(shell.getInputStream().readAllBytes(), StandardCharsets.UTF_8);
        CHECK.due("ends with: " + commands, shell.waitFor(), 0);
        return output.lines().collect(Collectors.toList());
    }

    /** The first block runs all tests, this one too: it can't be tried here. */
    private void tryOneTest() throws IOException, InterruptedException {
        List<String> blocks = blocksOf("Tests");
        CHECK.due("runs all tests", blocks.get(0), ".ci/run\n");
        CHECK.due("can be run: .ci/run", Files.isExecutable(Path.of(".ci/run")), true);
        List<String> output = output(Path.of("."), blocks.get(1));
        String last = output.isEmpty() ? "" : output.get(output.size() - 1);
        CHECK.due("one test alone: " + last, last.matches("RunsTest: \\d+ passed, 0 failed"), true);
    }

    private void tryRun() throws IOException {
        Document document = Document.read();
        List<Sentence> sentences = Sentence.ofLines(blocksOf("How a run is told").get(0).lines()
                .collect(Collectors.toList()));
        CHECK.due("sentences with runs", sentences.size(), 1);
        for (Sentence sentence : sentences) {
            CHECK.due("stands in the document: " + sentence.told, document.has(sentence.told), true);
            for (Run run : sentence.runs) {
                run.play(CHECK);
            }
        }
    }

    private void namesEachTest() throws IOException {
        try (Stream<Path> files = Files.list(Path.of("src/test/java"))) {
            for (Path file : files.filter(path -> path.toString().endsWith("Test.java")).collect(Collectors.toList())) {
                String name = file.getFileName().toString().replace(".java", "");
                CHECK.due("tells of " + name, text.contains("- `" + name + "`: "), true);
            }
        }
    }
}
