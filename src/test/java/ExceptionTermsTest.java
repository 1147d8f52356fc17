import java.util.ArrayList;
import java.util.List;
import java.util.function.Consumer;
import java.util.function.Supplier;

/** Terms: which exception is thrown, the first one if several apply, and that what throws changes nothing. */
public final class ExceptionTermsTest {
    private static final Class<?> INDEX = IndexOutOfBoundsException.class;
    private static final Class<?> ARGUMENT = IllegalArgumentException.class;
    private static final Class<?> STATE = IllegalStateException.class;

    /** A call that is refused, and what it throws. */
    private record Refused(String name, Class<?> thrown, Consumer<Subject> call) {
    }

    public static void main(String[] args) {
        theFirstOneListed();
        inEachState("a new object", Subject::new, wrongStates(false, true, true));
        inEachState("an object with marks", ExceptionTermsTest::marked, wrongStates(false, false, false));
        inEachState("all undone", ExceptionTermsTest::allUndone, wrongStates(false, true, false));
        inEachState("none undone", () -> Check.holding("abcd"), wrongStates(false, false, true));
        inEachState("an open group", ExceptionTermsTest::open, wrongStates(true, true, true));
        inEachState("an open group with edits", ExceptionTermsTest::openWithEdits, wrongStates(true, true, true));
        inEachState("a full text", ExceptionTermsTest::full, tooLong());
        inEachState("a full text in a group", ExceptionTermsTest::fullAndOpen, tooLong());
        Check.end();
    }

    /** All kinds of marks, author 2 at work, tracked; some groups to undo, two to redo. */
    private static Subject marked() {
        Subject x = Check.holding("abcd");
        Check.tracked(x, 1);
        x.erase(0, 2);
        x.format(1, 2, 9);
        x.author(2);
        x.open();
        x.insert(4, Check.codes("ef"), 4);
        x.accept(0, 1, 2);
        x.close();
        x.reject(0, 2, 2);
        x.format(0, 3, 7);
        x.undo();
        x.undo();
        return x;
    }

    private static Subject allUndone() {
        Subject x = Check.holding("abcd");
        x.format(0, 4, 5);
        x.undo();
        x.undo();
        return x;
    }

    private static Subject open() {
        Subject x = marked();
        x.open();
        return x;
    }

    private static Subject openWithEdits() {
        Subject x = open();
        x.insert(0, Check.codes("yz"), 3);
        x.erase(1, 2);
        return x;
    }

    private static Subject full() {
        Subject x = Check.holding(600);
        Check.tracked(x, 7);
        x.erase(3, 4);
        x.format(0, 9, 1);
        x.undo();
        return x;
    }

    private static Subject fullAndOpen() {
        Subject x = full();
        x.open();
        return x;
    }

    /**
     * "what throws changes nothing": each call that is refused throws what is due and leaves what can be
     * seen; and behind all of them, undoing and redoing goes as in an object that never got them.
     */
    private static void inEachState(String state, Supplier<Subject> maker, List<Refused> more) {
        Subject x = maker.get();
        List<Refused> calls = wrongInAnyState(x.length(0));
        calls.addAll(more);
        for (Refused r : calls) {
            refuses(state, x, r);
        }
        Check.is("the history of " + state, Check.history(x), Check.history(maker.get()));
    }

    private static void refuses(String state, Subject x, Refused r) {
        String call = r.name + " on " + state;
        Runnable run = () -> r.call.accept(x);
        if (r.thrown == INDEX) {
            Check.index(call, x, run);
        } else if (r.thrown == ARGUMENT) {
            Check.argument(call, x, run);
        } else {
            Check.state(call, x, run);
        }
    }

    /** "IndexOutOfBoundsException: there is no such place, range. IllegalArgumentException: there is no such .." */
    private static List<Refused> wrongInAnyState(int length) {
        List<Refused> calls = new ArrayList<>();
        calls.add(new Refused("author(-1)", ARGUMENT, x -> x.author(-1)));
        calls.add(new Refused("author(8)", ARGUMENT, x -> x.author(8)));
        int[] noPlaces = {-1, length + 1, Integer.MIN_VALUE, Integer.MAX_VALUE};
        for (int at : noPlaces) {
            calls.add(new Refused("insert(" + at + ", 65, 0)", INDEX, x -> x.insert(at, 65, 0)));
            calls.add(new Refused("next(" + at + ", 1)", INDEX, x -> x.next(at, 1)));
            calls.add(new Refused("mark(" + at + ", 0)", INDEX, x -> x.mark(at, 0)));
            calls.add(new Refused("seen(0, " + at + ", 0)", INDEX, x -> x.seen(0, at, 0)));
            calls.add(new Refused("seen(1, " + at + ", 1)", INDEX, x -> x.seen(1, at, 1)));
            calls.add(new Refused("seen(2, " + at + ", 2)", INDEX, x -> x.seen(2, at, 2)));
        }
        calls.add(new Refused("mark(length, 0)", INDEX, x -> x.mark(length, 0)));
        calls.add(new Refused("seen(0, length, 0)", INDEX, x -> x.seen(0, length, 0)));
        int[][] noRanges = {{-1, 0}, {-1, 1}, {0, -1}, {0, length + 1}, {length, 1}, {length + 1, 0}, {length + 1, -1},
            {1, Integer.MAX_VALUE}, {Integer.MAX_VALUE, 1}, {0, Integer.MIN_VALUE}};
        for (int[] r : noRanges) {
            String range = "(" + r[0] + ", " + r[1];
            calls.add(new Refused("erase" + range + ")", INDEX, x -> x.erase(r[0], r[1])));
            calls.add(new Refused("format" + range + ", 1)", INDEX, x -> x.format(r[0], r[1], 1)));
            calls.add(new Refused("accept" + range + ", 255)", INDEX, x -> x.accept(r[0], r[1], 255)));
            calls.add(new Refused("reject" + range + ", 255)", INDEX, x -> x.reject(r[0], r[1], 255)));
        }
        addWrongArguments(calls, length);
        return calls;
    }

    private static void addWrongArguments(List<Refused> calls, int length) {
        int[] noFormats = {-1, 256, Integer.MIN_VALUE, Integer.MAX_VALUE};
        for (int f : noFormats) {
            calls.add(new Refused("insert(0, 65, " + f + ")", ARGUMENT, x -> x.insert(0, 65, f)));
            calls.add(new Refused("format(0, length, " + f + ")", ARGUMENT, x -> x.format(0, length, f)));
        }
        calls.add(new Refused("insert(length, 0, 0)", ARGUMENT, x -> x.insert(length, 0, 0)));
        calls.add(new Refused("insert(0, 0xFF00, 0)", ARGUMENT, x -> x.insert(0, 0xFF00, 0)));
        int[] noSets = {0, -1, 256, 257, Integer.MIN_VALUE, Integer.MAX_VALUE};
        for (int s : noSets) {
            calls.add(new Refused("accept(0, length, " + s + ")", ARGUMENT, x -> x.accept(0, length, s)));
            calls.add(new Refused("reject(0, length, " + s + ")", ARGUMENT, x -> x.reject(0, length, s)));
            calls.add(new Refused("next(0, " + s + ")", ARGUMENT, x -> x.next(0, s)));
        }
        int[] noViews = {-1, 3, Integer.MIN_VALUE, Integer.MAX_VALUE};
        for (int v : noViews) {
            calls.add(new Refused("seen(" + v + ", 0, 0)", ARGUMENT, x -> x.seen(v, 0, 0)));
            calls.add(new Refused("seen(0, 0, " + v + ")", ARGUMENT, x -> x.seen(0, 0, v)));
        }
    }

    /** "IllegalStateException: as said": open(), close(), undo(), redo(). */
    private static List<Refused> wrongStates(boolean isOpen, boolean noUndo, boolean noRedo) {
        List<Refused> calls = new ArrayList<>();
        if (isOpen) {
            calls.add(new Refused("open()", STATE, Subject::open));
        } else {
            calls.add(new Refused("close()", STATE, Subject::close));
        }
        if (noUndo) {
            calls.add(new Refused("undo()", STATE, Subject::undo));
        }
        if (noRedo) {
            calls.add(new Refused("redo()", STATE, Subject::redo));
        }
        return calls;
    }

    /** The same: insert(). */
    private static List<Refused> tooLong() {
        List<Refused> calls = new ArrayList<>();
        calls.add(new Refused("insert(0, 65, 0)", STATE, x -> x.insert(0, 65, 0)));
        calls.add(new Refused("insert(300, -1L, 255)", STATE, x -> x.insert(300, -1L, 255)));
        calls.add(new Refused("insert(600, 65, 0)", STATE, x -> x.insert(600, 65, 0)));
        return calls;
    }

    /** "Of several exceptions that apply the first one listed is thrown" */
    private static void theFirstOneListed() {
        Subject x = full();
        Check.index("insert: no place, no format, no code, too long", x, () -> x.insert(601, 0, 256));
        Check.index("insert: no place, no format, too long", x, () -> x.insert(-1, 65, -1));
        Check.index("insert: no place, no code, too long", x, () -> x.insert(601, 0, 0));
        Check.index("insert: no place, too long", x, () -> x.insert(-1, 65, 0));
        Check.argument("insert: no format, no code, too long", x, () -> x.insert(600, 0, -1));
        Check.argument("insert: no format, too long", x, () -> x.insert(600, 65, 256));
        Check.argument("insert: no code, too long", x, () -> x.insert(600, 0xFF00, 0));
        Subject y = marked();
        Check.index("insert: no place, no format", y, () -> y.insert(y.length(0) + 1, 65, 256));
        Check.index("insert: no place, no code", y, () -> y.insert(-1, 0, 0));
        Check.index("format: no range, no format", y, () -> y.format(0, -1, 256));
        Check.index("format: no range, no format", y, () -> y.format(y.length(0), 1, -1));
        Check.index("accept: no range, no set", y, () -> y.accept(-1, 0, 0));
        Check.index("accept: no range, no set", y, () -> y.accept(0, y.length(0) + 1, 256));
        Check.index("reject: no range, no set", y, () -> y.reject(-1, 0, 0));
        Check.index("reject: no range, no set", y, () -> y.reject(0, y.length(0) + 1, 256));
        Check.argument("seen: no view, no place", y, () -> y.seen(3, -1, 0));
        Check.argument("seen: no what, no place", y, () -> y.seen(1, y.length(1), 3));
        Check.argument("seen: no view, no what, no place", y, () -> y.seen(-1, 600, -1));
        Check.index("mark: no place, no what", y, () -> y.mark(y.length(0), 4));
        Check.index("mark: no place, no what", y, () -> y.mark(-1, -1));
        Check.index("next: no place, no set", y, () -> y.next(y.length(0) + 1, 0));
        Check.index("next: no place, no set", y, () -> y.next(-1, 256));
    }
}
