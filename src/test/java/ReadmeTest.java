import java.io.File;
import java.io.IOException;
import java.nio.charset.StandardCharsets;
import java.nio.file.Files;
import java.nio.file.Path;
import java.util.ArrayList;
import java.util.List;
import java.util.stream.Stream;

/** README.md: what it tells to be run is run as it stands there, beside a copy of the project, and answers as it says. */
public final class ReadmeTest {
    private static final Due due = new Due();
    private static final Path COPY = Path.of("build", "readme");
    private static final Path HOME = COPY.resolve("main");

    private record Block(String language, String lines) {
    }

    public static void main(String[] args) throws IOException, InterruptedException {
        String page = Files.readString(Path.of("README.md"));
        List<Block> blocks = blocks(page);
        delete(COPY);
        copy(Path.of("src"), HOME.resolve("src"));
        copy(Path.of("..", "shared", "tests"), COPY.resolve("shared").resolve("tests"));
        int examples = 0;
        for (int i = 0; i < blocks.size(); i++) {
            Block block = blocks.get(i);
            if (block.language().equals("java")) Files.writeString(HOME.resolve("Example.java"), block.lines());
            if (!block.language().equals("sh")) continue;
            boolean answers = i + 1 < blocks.size() && blocks.get(i + 1).language().equals("text");
            runs(block.lines(), answers ? blocks.get(i + 1).lines() : null);
            if (answers) examples++;
        }
        delete(COPY);
        due.is("README.md: examples with their answers", examples, 1);
        due.is("README.md: .ci/run, one test, one shared test, the example", blocks.stream().filter(b -> b.language().equals("sh")).count(), 4);
        namesEachTest(page);
        due.finish("ReadmeTest");
    }

    /** What stands between ``` and ```, with the word behind the first of these. */
    private static List<Block> blocks(String page) {
        List<Block> found = new ArrayList<>();
        StringBuilder lines = null;
        String language = "";
        for (String line : page.split("\n")) {
            if (line.startsWith("```") && lines == null) {
                language = line.substring(3);
                lines = new StringBuilder();
            } else if (line.startsWith("```")) {
                found.add(new Block(language, lines.toString()));
                lines = null;
            } else if (lines != null) {
                lines.append(line).append('\n');
            }
        }
        due.holds("README.md: each ``` is closed", lines == null);
        return found;
    }

    /** .ci/run runs this test: so it is not run again here. */
    private static void runs(String lines, String answers) throws IOException, InterruptedException {
        if (lines.strip().equals(".ci/run")) {
            due.holds("README.md: .ci/run can be run", new File(".ci/run").canExecute());
            return;
        }
        Process process = new ProcessBuilder("sh", "-e", "-c", lines).directory(HOME.toFile()).redirectErrorStream(true).start();
        process.getOutputStream().close();
        String got = new String(process.getInputStream().readAllBytes(), StandardCharsets.UTF_8);
        due.is("README.md, " + lines.replace('\n', ';') + " ends with", process.waitFor(), 0);
        if (answers == null) return;
        if (!got.equals(answers)) System.out.println(got);
        due.holds("README.md: the example answers what README.md says it answers", got.equals(answers));
    }

    private static void namesEachTest(String page) throws IOException {
        try (Stream<Path> files = Files.list(Path.of("src", "test", "java"))) {
            for (Path file : files.toList()) {
                String name = file.getFileName().toString().replace(".java", "");
                due.holds("README.md names " + name, page.contains("`" + name + "`"));
            }
        }
    }

    private static void copy(Path from, Path to) throws IOException {
        try (Stream<Path> files = Files.walk(from)) {
            for (Path file : files.toList()) {
                Path there = to.resolve(from.relativize(file).toString());
                if (Files.isDirectory(file)) Files.createDirectories(there);
                else Files.write(there, Files.readAllBytes(file));
            }
        }
    }

    private static void delete(Path folder) throws IOException {
        if (!Files.exists(folder)) return;
        try (Stream<Path> files = Files.walk(folder)) {
            List<Path> all = new ArrayList<>(files.toList());
            for (int i = all.size() - 1; i >= 0; i--) Files.delete(all.get(i));
        }
    }
}
