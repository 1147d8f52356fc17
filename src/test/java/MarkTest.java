/** Promise 15: mark() tells of a character's mark. */
public final class MarkTest {
    public static void main(String[] args) {
        marks();
        oldFormatZero();
        wrongArguments();
        lastPlace();
        emptyText();
        Check.end();
    }

    private static void marks() {
        Subject x = new Subject();
        Check.tracked(x, 7);
        x.insert(0, Check.codes("a"), 255);
        x.author(6);
        x.erase(0, 1);
        x.author(0);
        x.erase(0, 1);
        x.author(5);
        x.format(0, 1, 1);
        Check.is("mark(0, 0)", x.mark(0, 0), 128);
        Check.is("mark(0, 1)", x.mark(0, 1), 65);
        Check.is("mark(0, 2)", x.mark(0, 2), 32);
        Check.is("mark(0, 3)", x.mark(0, 3), 255);
    }

    private static void oldFormatZero() {
        Subject x = Check.holding("ab");
        Check.tracked(x, 1);
        x.format(1, 1, 1);
        Check.is("mark(0, 3) of a plain one", x.mark(0, 3), -1);
        Check.is("mark(1, 3) of an old format 0", x.mark(1, 3), 0);
        Check.is("mark(0, 0)", x.mark(0, 0), 0);
        Check.is("mark(0, 1)", x.mark(0, 1), 0);
        Check.is("mark(0, 2)", x.mark(0, 2), 0);
    }

    private static void wrongArguments() {
        Subject x = Check.holding("abc");
        int[] places = {-1, 3, 4, 600, Integer.MIN_VALUE, Integer.MAX_VALUE};
        for (int at : places) {
            Check.index("mark(" + at + ", 0)", x, () -> x.mark(at, 0));
            Check.index("mark(" + at + ", 4)", x, () -> x.mark(at, 4));
        }
        int[] whats = {-1, 4, Integer.MIN_VALUE, Integer.MAX_VALUE};
        for (int what : whats) {
            Check.argument("mark(2, " + what + ")", x, () -> x.mark(2, what));
        }
    }

    /** "there is no such place": the last one is the length less 1. */
    private static void lastPlace() {
        Subject x = Check.holding(599);
        Check.tracked(x, 7);
        x.insert(599, Check.codes("a"), 0);
        Check.is("mark(599, 0)", x.mark(599, 0), 128);
        Check.is("mark(0, 0)", x.mark(0, 0), 0);
        Check.index("mark(600, 0)", x, () -> x.mark(600, 0));
        x.erase(599, 1);
        Check.index("mark(599, 0) when it is gone", x, () -> x.mark(599, 0));
    }

    private static void emptyText() {
        Subject x = new Subject();
        for (int w = -1; w <= 4; w++) {
            int what = w;
            Check.index("mark(0, " + what + ") of a new object", x, () -> x.mark(0, what));
        }
    }
}
