import java.io.IOException;
import java.nio.file.Files;
import java.nio.file.Path;
import java.util.ArrayList;
import java.util.List;

/** README.md's example: the class answers what stands behind its calls. Run from the project's root. */
public final class ReadmeTest {
    private final List<String> answers = new ArrayList<>();

    public static void main(String[] args) throws IOException {
        new ReadmeTest().compare(Files.readAllLines(Path.of("README.md")));
        Check.end();
    }

    private void compare(List<String> readme) {
        makeTheCalls();
        List<String> told = new ArrayList<>();
        for (String line : readme) {
            if (line.matches("x\\..*; +// (false|-?[0-9]+): .*")) {
                told.add(line.replaceAll("; +// ([^:]*):.*", " = $1"));
            }
        }
        Check.is("the example", String.join("\n", answers), String.join("\n", told));
    }

    private void makeTheCalls() {
        Subject x = new Subject();
        note("x.insert(0, 0x636261L, 0)", x.insert(0, 0x636261L, 0));
        note("x.author(2)", x.author(2));
        note("x.track(true)", x.track(true));
        note("x.erase(1, 1)", x.erase(1, 1));
        note("x.mark(1, 1)", x.mark(1, 1));
        note("x.length(1)", x.length(1));
        note("x.seen(1, 1, 0)", x.seen(1, 1, 0));
        note("x.reject(0, 3, 4)", x.reject(0, 3, 4));
        note("x.undo()", x.undo());
        x.open();
        note("x.format(0, 1, 7)", x.format(0, 1, 7));
        note("x.accept(0, 3, 255)", x.accept(0, 3, 255));
        note("x.close()", x.close());
        note("x.undo()", x.undo());
        note("x.count(3)", x.count(3));
    }

    private void note(String call, Object answer) {
        answers.add(call + " = " + answer);
    }
}
