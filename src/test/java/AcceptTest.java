/** Promise 7: a set of authors accepts a range. */
public final class AcceptTest {
    public static void main(String[] args) {
        erased();
        inserted();
        formatted();
        severalAtOnce();
        rangeAlone();
        authorZero();
        wrongArguments();
        wentOrHaveAnotherMark();
        setsFrom1To255();
        ofNone();
        ofAFullText();
        Check.end();
    }

    private static void erased() {
        Subject x = Check.holding("ab");
        Check.tracked(x, 1);
        x.erase(0, 1);
        x.author(2);
        x.erase(0, 2);
        Check.is("accept by others", x.accept(0, 2, 255 - 6), 0);
        Check.is("accept by one of two", x.accept(0, 2, 2), 1);
        Check.is("the text", Check.text(x), "b:0 0/4/0/-1");
        Check.is("accept by several", x.accept(0, 1, 255), 1);
        Check.is("length(0)", x.length(0), 0);
    }

    private static void inserted() {
        Subject x = Check.holding("a");
        Check.tracked(x, 3);
        x.insert(1, Check.codes("bc"), 5);
        x.author(4);
        x.erase(2, 1);
        Check.is("accept by others", x.accept(0, 3, 255 - 8 - 16), 0);
        Check.is("accept by the inserter", x.accept(0, 3, 8), 2);
        Check.is("the text", Check.text(x), "a:0 0/0/0/-1, b:5 0/0/0/-1, c:5 0/16/0/-1");
    }

    private static void formatted() {
        Subject x = Check.holding("a");
        Check.tracked(x, 5);
        x.format(0, 1, 9);
        x.author(6);
        x.format(0, 1, 10);
        Check.is("accept by others", x.accept(0, 1, 255 - 32 - 64), 0);
        Check.is("accept by one of two", x.accept(0, 1, 32), 1);
        Check.is("the format stays", Check.letter(x, 0), "a:10 0/0/0/-1");
        Check.is("accept of a plain one", x.accept(0, 1, 255), 0);
    }

    private static void severalAtOnce() {
        Subject x = new Subject();
        Check.tracked(x, 1);
        x.insert(0, Check.codes("abcd"), 5);
        x.author(2);
        x.format(0, 4, 6);
        x.author(3);
        x.erase(3, 1);
        Check.is("accept by the inserter", x.accept(0, 1, 2), 1);
        Check.is("accept by the formatter", x.accept(1, 1, 4), 1);
        Check.is("accept by both", x.accept(2, 1, 6), 1);
        Check.is("the text", Check.text(x), "a:6 0/0/4/5, b:6 2/0/0/-1, c:6 0/0/0/-1, d:6 2/8/4/5");
        Check.is("the eraser comes first", x.accept(3, 1, 14), 1);
        Check.is("length(0)", x.length(0), 3);
    }

    private static void rangeAlone() {
        Subject x = new Subject();
        Check.tracked(x, 1);
        x.insert(0, Check.codes("abcd"), 0);
        Check.is("accept(1, 2, 2)", x.accept(1, 2, 2), 2);
        Check.is("the text", Check.text(x), "a:0 2/0/0/-1, b:0 0/0/0/-1, c:0 0/0/0/-1, d:0 2/0/0/-1");
        Check.is("accept(4, 0, 2)", x.accept(4, 0, 2), 0);
        Check.is("accept is an edit", x.undo(), 1);
        Check.is("mark(1, 0) behind undo()", x.mark(1, 0), 2);
    }

    private static void authorZero() {
        Subject x = Check.holding("ab");
        Check.tracked(x, 0);
        x.erase(0, 1);
        Check.is("accept(0, 2, 254)", x.accept(0, 2, 254), 0);
        Check.is("accept(0, 2, 1)", x.accept(0, 2, 1), 1);
        Check.is("length(0)", x.length(0), 1);
    }

    private static void wrongArguments() {
        Subject x = Check.holding("abc");
        Check.index("accept(0, 4, 1)", x, () -> x.accept(0, 4, 1));
        Check.index("accept(-1, 1, 1)", x, () -> x.accept(-1, 1, 1));
        Check.index("accept(1, -1, 1)", x, () -> x.accept(1, -1, 1));
        Check.index("accept(3, MAX, 1)", x, () -> x.accept(3, Integer.MAX_VALUE, 1));
        Check.argument("accept(0, 3, 0)", x, () -> x.accept(0, 3, 0));
        Check.argument("accept(0, 3, 256)", x, () -> x.accept(0, 3, 256));
        Check.argument("accept(0, 0, -1)", x, () -> x.accept(0, 0, -1));
        Check.index("no range, no set", x, () -> x.accept(4, 0, 0));
    }

    /** "how many characters went or have another mark" */
    private static void wentOrHaveAnotherMark() {
        Subject x = Check.holding("abd");
        Check.tracked(x, 1);
        x.erase(0, 1);
        x.format(1, 1, 9);
        x.insert(2, Check.codes("c"), 0);
        x.author(3);
        x.insert(4, Check.codes("e"), 0);
        Check.is("a goes, b and c have another mark, d and e stay", x.accept(0, 5, 2), 3);
        Check.is("the text", Check.text(x), "b:9 0/0/0/-1, c:0 0/0/0/-1, d:0 0/0/0/-1, e:0 8/0/0/-1");
        Check.is("accept() again", x.accept(0, 4, 2), 0);
    }

    /** "there is no such .. set (1 .. 255)" */
    private static void setsFrom1To255() {
        for (int set = 1; set <= 255; set++) {
            Subject x = new Subject();
            Check.tracked(x, 0);
            x.insert(0, Check.codes("a"), 0);
            x.author(7);
            x.insert(1, Check.codes("b"), 0);
            Check.is("accept(0, 2, " + set + ")", x.accept(0, 2, set), (set & 1) + (set >> 7));
        }
        Subject x = Check.holding("ab");
        Check.tracked(x, 0);
        x.erase(0, 2);
        int[] wrong = {0, -1, -255, 256, 257, 511, 512, Integer.MIN_VALUE, Integer.MAX_VALUE};
        for (int set : wrong) {
            Check.argument("accept(0, 2, " + set + ")", x, () -> x.accept(0, 2, set));
            Check.argument("accept(2, 0, " + set + ")", x, () -> x.accept(2, 0, set));
        }
    }

    /** A range of none has no character that could go. */
    private static void ofNone() {
        Subject x = Check.holding("ab");
        Check.tracked(x, 0);
        x.erase(0, 2);
        String before = Check.all(x);
        for (int at = 0; at <= 2; at++) {
            Check.is("accept(" + at + ", 0, 255)", x.accept(at, 0, 255), 0);
        }
        Check.is("the state", Check.all(x), before);
        Check.is("accept(0, 0, 1) of a new object", new Subject().accept(0, 0, 1), 0);
    }

    /** All 600 have another mark, or go. */
    private static void ofAFullText() {
        Subject x = Check.holding(600);
        Check.is("accept(0, 600, 255) of plain ones", x.accept(0, 600, 255), 0);
        Check.tracked(x, 6);
        x.format(0, 600, 1);
        Check.is("accept(0, 600, 64) of formatted ones", x.accept(0, 600, 64), 600);
        x.erase(0, 600);
        Check.is("accept(0, 600, 64) of erased ones", x.accept(0, 600, 64), 600);
        Check.is("length(0)", x.length(0), 0);
    }
}
