/** Promise 8: a set of authors rejects a range. */
public final class RejectTest {
    public static void main(String[] args) {
        inserted();
        erased();
        formatted();
        severalAtOnce();
        rangeAlone();
        authorZero();
        wrongArguments();
        wentOrHaveAnotherMark();
        setsFrom1To255();
        ofNone();
        ofAFullText();
        Check.end();
    }

    private static void inserted() {
        Subject x = Check.holding("a");
        Check.tracked(x, 3);
        x.insert(1, Check.codes("b"), 5);
        Check.is("reject by others", x.reject(0, 2, 255 - 8), 0);
        Check.is("reject by the inserter", x.reject(0, 2, 8), 1);
        Check.is("the text", Check.text(x), "a:0 0/0/0/-1");
    }

    private static void erased() {
        Subject x = Check.holding("ab");
        for (int author = 1; author <= 3; author++) {
            Check.tracked(x, author);
            x.erase(0, 1);
        }
        Check.is("reject by others", x.reject(0, 2, 255 - 14), 0);
        Check.is("reject by one of three", x.reject(0, 2, 4 + 128), 1);
        Check.is("the text", Check.letter(x, 0), "a:0 0/10/0/-1");
        Check.is("reject by both", x.reject(0, 2, 255), 1);
        Check.is("the text", Check.text(x), "a:0 0/0/0/-1, b:0 0/0/0/-1");
    }

    private static void formatted() {
        Subject x = Check.holding("a");
        x.format(0, 1, 3);
        Check.tracked(x, 5);
        x.format(0, 1, 9);
        x.author(6);
        x.format(0, 1, 10);
        Check.is("reject by others", x.reject(0, 1, 255 - 32 - 64), 0);
        Check.is("reject by one of two", x.reject(0, 1, 64), 1);
        Check.is("the old format", Check.letter(x, 0), "a:3 0/0/0/-1");
        Check.is("reject of a plain one", x.reject(0, 1, 255), 0);
    }

    private static void severalAtOnce() {
        Subject x = new Subject();
        Check.tracked(x, 1);
        x.insert(0, Check.codes("abcd"), 5);
        x.author(2);
        x.format(0, 4, 6);
        x.author(3);
        x.erase(0, 4);
        Check.is("reject by the formatter", x.reject(0, 1, 4), 1);
        Check.is("reject by the eraser", x.reject(1, 1, 8), 1);
        Check.is("reject by both", x.reject(2, 1, 12), 1);
        Check.is("the text", Check.text(x), "a:5 2/8/0/-1, b:6 2/0/4/5, c:5 2/0/0/-1, d:6 2/8/4/5");
        Check.is("the inserter comes first", x.reject(3, 1, 14), 1);
        Check.is("length(0)", x.length(0), 3);
    }

    private static void rangeAlone() {
        Subject x = Check.holding("abcd");
        Check.tracked(x, 1);
        x.erase(0, 4);
        Check.is("reject(1, 2, 2)", x.reject(1, 2, 2), 2);
        Check.is("the text", Check.text(x), "a:0 0/2/0/-1, b:0 0/0/0/-1, c:0 0/0/0/-1, d:0 0/2/0/-1");
        Check.is("reject(4, 0, 2)", x.reject(4, 0, 2), 0);
        Check.is("reject is an edit", x.undo(), 1);
        Check.is("mark(1, 1) behind undo()", x.mark(1, 1), 2);
    }

    private static void authorZero() {
        Subject x = Check.holding("ab");
        Check.tracked(x, 0);
        x.erase(0, 1);
        Check.is("reject(0, 2, 254)", x.reject(0, 2, 254), 0);
        Check.is("reject(0, 2, 1)", x.reject(0, 2, 1), 1);
        Check.is("length(0)", x.length(0), 2);
    }

    private static void wrongArguments() {
        Subject x = Check.holding("abc");
        Check.index("reject(0, 4, 1)", x, () -> x.reject(0, 4, 1));
        Check.index("reject(-1, 1, 1)", x, () -> x.reject(-1, 1, 1));
        Check.index("reject(1, -1, 1)", x, () -> x.reject(1, -1, 1));
        Check.index("reject(3, MAX, 1)", x, () -> x.reject(3, Integer.MAX_VALUE, 1));
        Check.argument("reject(0, 3, 0)", x, () -> x.reject(0, 3, 0));
        Check.argument("reject(0, 3, 256)", x, () -> x.reject(0, 3, 256));
        Check.argument("reject(0, 0, -1)", x, () -> x.reject(0, 0, -1));
        Check.index("no range, no set", x, () -> x.reject(4, 0, 0));
    }

    /** "how many characters went or have another mark" */
    private static void wentOrHaveAnotherMark() {
        Subject x = Check.holding("abd");
        Check.tracked(x, 1);
        x.erase(0, 1);
        x.format(1, 1, 9);
        x.insert(2, Check.codes("c"), 0);
        x.author(3);
        x.insert(4, Check.codes("e"), 0);
        Check.is("c goes, a and b have another mark, d and e stay", x.reject(0, 5, 2), 3);
        Check.is("the text", Check.text(x), "a:0 0/0/0/-1, b:0 0/0/0/-1, d:0 0/0/0/-1, e:0 8/0/0/-1");
        Check.is("reject() again", x.reject(0, 4, 2), 0);
    }

    /** "there is no such .. set (1 .. 255)" */
    private static void setsFrom1To255() {
        for (int set = 1; set <= 255; set++) {
            Subject x = new Subject();
            Check.tracked(x, 0);
            x.insert(0, Check.codes("a"), 0);
            x.author(7);
            x.insert(1, Check.codes("b"), 0);
            Check.is("reject(0, 2, " + set + ")", x.reject(0, 2, set), (set & 1) + (set >> 7));
        }
        Subject x = Check.holding("ab");
        Check.tracked(x, 0);
        x.erase(0, 2);
        int[] wrong = {0, -1, -255, 256, 257, 511, 512, Integer.MIN_VALUE, Integer.MAX_VALUE};
        for (int set : wrong) {
            Check.argument("reject(0, 2, " + set + ")", x, () -> x.reject(0, 2, set));
            Check.argument("reject(2, 0, " + set + ")", x, () -> x.reject(2, 0, set));
        }
    }

    /** A range of none has no character that could go. */
    private static void ofNone() {
        Subject x = Check.holding("ab");
        Check.tracked(x, 0);
        x.erase(0, 2);
        String before = Check.all(x);
        for (int at = 0; at <= 2; at++) {
            Check.is("reject(" + at + ", 0, 255)", x.reject(at, 0, 255), 0);
        }
        Check.is("the state", Check.all(x), before);
        Check.is("reject(0, 0, 1) of a new object", new Subject().reject(0, 0, 1), 0);
    }

    /** All 600 have another mark, or go. */
    private static void ofAFullText() {
        Subject x = Check.holding(600);
        Check.is("reject(0, 600, 255) of plain ones", x.reject(0, 600, 255), 0);
        Check.tracked(x, 6);
        x.format(0, 600, 1);
        Check.is("reject(0, 600, 64) of formatted ones", x.reject(0, 600, 64), 600);
        x.erase(0, 600);
        Check.is("reject(0, 600, 64) of erased ones", x.reject(0, 600, 64), 600);
        Check.is("length(0)", x.length(0), 600);
    }
}
