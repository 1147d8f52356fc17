import java.io.IOException;
import java.nio.file.Files;
import java.nio.file.Path;
import java.util.List;
import java.util.stream.Collectors;
import java.util.stream.Stream;

/**
 * "An object is used for at most 512 calls after it has been made; what later calls answer is free":
 * so no test may rest on what an object answers behind its 512th call. Run from the project's root.
 */
public final class SubjectTest {
    public static void main(String[] args) throws IOException {
        noObjectIsAskedMore();
        aNewObjectGoesOnWhereTheLastOneWas();
        whatThrowsIsMadeAgain();
        tooManyChangesAreRefused();
        onlySubjectMakesTrackers();
        Check.end();
    }

    private static void noObjectIsAskedMore() {
        Subject x = Check.holding(600);
        int most = 0;
        for (int i = 0; i < 2000; i++) {
            x.mark(i % 600, 0);
            most = Math.max(most, x.calls());
        }
        Check.is("the most calls on one object", most, 512);
        Check.is("and on the one behind it", x.calls() < 512, true);
    }

    private static void aNewObjectGoesOnWhereTheLastOneWas() {
        Subject x = Check.holding("abcdefghij");
        Check.tracked(x, 6);
        x.erase(2, 3);
        x.format(0, 4, 9);
        x.undo();
        x.open();
        String before = Check.all(x);
        useUp(x);
        Check.is("what a new object shows", Check.all(x), before);
        Check.is("close()", x.close(), 0);
        Check.is("redo()", x.redo(), 1);
    }

    private static void whatThrowsIsMadeAgain() {
        Subject x = Check.holding("ab");
        Check.index("erase(3, 1)", x, () -> x.erase(3, 1));
        useUp(x);
        x.length(0);
        Check.is("insert(), erase(), length()", x.calls(), 3);
    }

    private static void tooManyChangesAreRefused() {
        Subject x = new Subject();
        for (int i = 0; i < 512; i++) {
            x.author(i % 8);
        }
        boolean refused = false;
        try {
            x.length(0);
        } catch (AssertionError e) {
            refused = true;
        }
        Check.is("call 513 is refused", refused, true);
    }

    private static void onlySubjectMakesTrackers() throws IOException {
        List<String> makers;
        try (Stream<Path> files = Files.list(Path.of("src/test/java"))) {
            makers = files.filter(SubjectTest::makesTrackers).map(file -> file.getFileName().toString())
                .collect(Collectors.toList());
        }
        Check.is("what makes trackers", makers.toString(), "[Subject.java]");
    }

    private static boolean makesTrackers(Path file) {
        try {
            return Files.readString(file).matches("(?s).*\\bChangeTracker *(\\(\\)|::new).*");
        } catch (IOException e) {
            throw new IllegalStateException(e);
        }
    }

    /** Lets the next call come to a new object. */
    private static void useUp(Subject x) {
        while (x.calls() < 512) {
            x.length(0);
        }
    }
}
