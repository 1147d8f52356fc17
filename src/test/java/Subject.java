import java.util.ArrayList;
import java.util.List;
import java.util.function.ToIntFunction;

/**
 * A ChangeTracker that a test may ask as much as it likes, though the document promises nothing about
 * an object after its 512th call: when an object's calls are used up, the calls that may have changed
 * it are made again on a new one, and that one is asked from then on.
 */
final class Subject {
    private static final int MOST_CALLS = 512;

    /** Those that threw, too: if they changed something, the new object has to show it. */
    private final List<ToIntFunction<ChangeTracker>> changes = new ArrayList<>();
    private ChangeTracker tracker = new ChangeTracker();
    private int calls = 0;

    int author(int author) {
        return change(x -> x.author(author));
    }

    boolean track(boolean on) {
        return change(x -> x.track(on) ? 1 : 0) == 1;
    }

    int insert(int at, long codes, int format) {
        return change(x -> x.insert(at, codes, format));
    }

    int erase(int at, int n) {
        return change(x -> x.erase(at, n));
    }

    int format(int at, int n, int format) {
        return change(x -> x.format(at, n, format));
    }

    int accept(int at, int n, int authors) {
        return change(x -> x.accept(at, n, authors));
    }

    int reject(int at, int n, int authors) {
        return change(x -> x.reject(at, n, authors));
    }

    void open() {
        change(x -> {
            x.open();
            return 0;
        });
    }

    int close() {
        return change(ChangeTracker::close);
    }

    int undo() {
        return change(ChangeTracker::undo);
    }

    int redo() {
        return change(ChangeTracker::redo);
    }

    int length(int view) {
        return ask(x -> x.length(view));
    }

    int seen(int view, int i, int what) {
        return ask(x -> x.seen(view, i, what));
    }

    int mark(int at, int what) {
        return ask(x -> x.mark(at, what));
    }

    int next(int at, int authors) {
        return ask(x -> x.next(at, authors));
    }

    int count(int what) {
        return ask(x -> x.count(what));
    }

    /** Who is at work; the second call takes back what the first one changes. */
    int worker() {
        use(2);
        int author = tracker.author(0);
        tracker.author(author);
        return author;
    }

    /** Whether tracking is on; the second call takes back what the first one changes. */
    boolean isTracking() {
        use(2);
        boolean on = tracker.track(false);
        tracker.track(on);
        return on;
    }

    /** How many calls have been made on the object that is asked now. */
    int calls() {
        return calls;
    }

    private int change(ToIntFunction<ChangeTracker> call) {
        use(1);
        changes.add(call);
        return call.applyAsInt(tracker);
    }

    private int ask(ToIntFunction<ChangeTracker> call) {
        use(1);
        return call.applyAsInt(tracker);
    }

    private void use(int n) {
        if (calls + n > MOST_CALLS) {
            renew();
        }
        if (calls + n > MOST_CALLS) {
            throw new AssertionError("the test makes too many calls that may change the object");
        }
        calls += n;
    }

    private void renew() {
        tracker = new ChangeTracker();
        for (ToIntFunction<ChangeTracker> call : changes) {
            try {
                call.applyAsInt(tracker);
            } catch (RuntimeException e) {
                // the test has seen what it throws when it was first made
                continue;
            }
        }
        calls = changes.size();
    }
}
