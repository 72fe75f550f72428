import java.io.IOException;
import java.nio.file.Files;
import java.nio.file.Path;
import java.util.List;
import java.util.function.Supplier;
import java.util.stream.Stream;

/** README.md: its example answers as it says, and it names each call and each test. */
public final class ReadmeTest {
    private final Check check = new Check();
    private final List<String> lines;

    private ReadmeTest(List<String> read) {
        lines = read;
    }

    public static void main(String[] args) throws IOException {
        ReadmeTest test = new ReadmeTest(Files.readAllLines(Path.of("README.md")));
        test.example();
        test.namesEachCall();
        test.namesEachTest();
        test.check.end("ReadmeTest");
    }

    private void example() {
        MagpieRuns game = new MagpieRuns();
        row("game.roll(3, 1);", () -> game.roll(3, 1));
        row("game.whyNoStep(7, 1);", () -> game.whyNoStep(7, 1));
        row("game.step(4, 3);", () -> game.step(4, 3));
        row("game.step(0, 1);", () -> game.step(0, 1));
        row("game.endTurn();", game::endTurn);
        Boards.write(game, "r21;m15.2;m15.1;e");
        check.is("README.md has the text of the example", has("\"r21;m15.2;m15.1;e\""), true);
        row("game.play();", game::play);
        row("game.undo();", game::undo);
        row("game.step(0, 9);", () -> game.step(0, 9));
    }

    /** A row of the example: the call, "// ", and the answer that it has. */
    private void row(String call, Supplier<Object> made) {
        String answer = Check.outcome(made).toString().replace("throws.", "throws ");
        boolean found = lines.stream().anyMatch(
                line -> line.startsWith(call) && line.substring(call.length()).strip().startsWith("// " + answer + ":"));
        check.is("README.md has the row " + call + " // " + answer + ":", found, true);
    }

    private boolean has(String words) {
        return lines.stream().anyMatch(line -> line.contains(words));
    }

    private void namesEachCall() {
        for (java.lang.reflect.Method call : MagpieRuns.class.getDeclaredMethods()) {
            if (java.lang.reflect.Modifier.isPublic(call.getModifiers())) {
                check.is("README.md names " + call.getName(), has("`" + call.getName() + "`"), true);
            }
        }
    }

    private void namesEachTest() throws IOException {
        try (Stream<Path> files = Files.list(Path.of("src/test/java"))) {
            for (Path file : files.toList()) {
                String name = file.getFileName().toString().replace(".java", "");
                if (name.endsWith("Test")) {
                    check.is("README.md names " + name, has("`" + name + "`"), true);
                }
            }
        }
    }
}
