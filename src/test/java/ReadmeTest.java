import java.io.IOException;
import java.nio.file.Files;
import java.nio.file.Path;
import java.util.ArrayList;
import java.util.List;

/** The README's example: its calls here in their order, and the answers that the README tells of them. */
public final class ReadmeTest {
    private static final Check CHECK = new Check();

    public static void main(String[] args) throws IOException {
        answersAreAsTold();
        readmeHasTheseCalls();
        CHECK.end();
    }

    private static void answersAreAsTold() {
        SignTeller teller = new SignTeller(1);
        int first = teller.example(3);
        teller.feature(first, 0, 10);
        teller.feature(first, 1, 20);
        int second = teller.example(5);
        teller.feature(second, 0, 30);
        teller.feature(second, 1, 22);
        CHECK.same("make(4)", teller.make(4), 1);
        teller.sign(0, 12);
        teller.sign(1, 20);
        CHECK.same("tell(0)", teller.tell(0), 3);
        CHECK.same("tell(1)", teller.tell(1), 5);
        CHECK.same("distance(0)", teller.distance(0), 2000);
        CHECK.same("margin(100)", teller.margin(100), 0);
        CHECK.same("tell(0) under the margin", teller.tell(0), SignTeller.REJECTED);
    }

    // .ci/run runs each test from the project's own folder.
    private static void readmeHasTheseCalls() throws IOException {
        List<String> told = new ArrayList<>();
        for (String line : Files.readAllLines(Path.of("README.md"))) {
            if (line.startsWith("teller.") && line.contains(" // ")) {
                told.add(line.replaceAll(";\\s+// ", " ").replaceAll("^teller\\.|: .*$", ""));
            }
        }
        CHECK.sameText("the README's calls with their answers", String.join(", ", told),
                "make(4) 1, tell(0) 3, tell(1) 5, distance(0) 2000, margin(100) 0, tell(0) REJECTED");
    }
}
