/** Promise 6: format() formats a range. */
public final class FormatTest {
    public static void main(String[] args) {
        untracked();
        untrackedTakesTheFormattersAway();
        tracked();
        trackedBackToTheOldFormat();
        trackedOfOnesOwn();
        countsFormatsNotMarks();
        wrongArguments();
        ofHowManyItIsAnotherOne();
        ofNone();
        Check.end();
    }

    private static void untracked() {
        Subject x = Check.holding("abcd");
        Check.is("format(1, 2, 255)", x.format(1, 2, 255), 2);
        Check.is("the text", Check.text(x), "a:0 0/0/0/-1, b:255 0/0/0/-1, c:255 0/0/0/-1, d:0 0/0/0/-1");
        Check.is("format(0, 4, 255)", x.format(0, 4, 255), 2);
        Check.is("format(0, 4, 255) again", x.format(0, 4, 255), 0);
        Check.is("format(4, 0, 1)", x.format(4, 0, 1), 0);
        Check.is("format(0, 4, 0)", x.format(0, 4, 0), 4);
    }

    private static void untrackedTakesTheFormattersAway() {
        Subject x = Check.holding("ab");
        Check.tracked(x, 1);
        x.insert(2, Check.codes("c"), 0);
        x.author(2);
        x.erase(0, 3);
        x.format(0, 3, 5);
        x.track(false);
        Check.is("format(0, 3, 6)", x.format(0, 3, 6), 3);
        Check.is("the text", Check.text(x), "a:6 0/4/0/-1, b:6 0/4/0/-1, c:6 2/4/0/-1");
    }

    private static void tracked() {
        Subject x = Check.holding("ab");
        Check.tracked(x, 0);
        Check.is("the same format", x.format(0, 2, 0), 0);
        Check.is("the text", Check.text(x), "a:0 0/0/0/-1, b:0 0/0/0/-1");
        Check.is("another format", x.format(0, 1, 9), 1);
        Check.is("the text", Check.letter(x, 0), "a:9 0/0/1/0");
        x.author(7);
        Check.is("another author, another format", x.format(0, 1, 8), 1);
        Check.is("the text", Check.letter(x, 0), "a:8 0/0/129/0");
        x.author(2);
        Check.is("another author, the same format", x.format(0, 1, 8), 0);
        Check.is("the text", Check.letter(x, 0), "a:8 0/0/133/0");
        x.track(false);
        x.format(1, 1, 77);
        x.track(true);
        x.format(1, 1, 78);
        Check.is("an old format that is not 0", Check.letter(x, 1), "b:78 0/0/4/77");
    }

    private static void trackedBackToTheOldFormat() {
        Subject x = Check.holding("a");
        Check.tracked(x, 1);
        x.format(0, 1, 9);
        x.author(2);
        x.format(0, 1, 10);
        Check.is("back to the old format", x.format(0, 1, 0), 1);
        Check.is("the text", Check.letter(x, 0), "a:0 0/0/0/-1");
        x.format(0, 1, 3);
        Check.is("formatted anew", Check.letter(x, 0), "a:3 0/0/4/0");
    }

    private static void trackedOfOnesOwn() {
        Subject x = new Subject();
        Check.tracked(x, 1);
        x.insert(0, Check.codes("a"), 4);
        Check.is("one's own", x.format(0, 1, 5), 1);
        Check.is("the text", Check.letter(x, 0), "a:5 2/0/0/-1");
        x.author(2);
        x.erase(0, 1);
        x.format(0, 1, 6);
        Check.is("another's", Check.letter(x, 0), "a:6 2/4/4/5");
        x.author(1);
        Check.is("one's own that another formatted", x.format(0, 1, 7), 1);
        Check.is("the rest of the mark stays", Check.letter(x, 0), "a:7 2/4/4/5");
        Check.is("one's own, the old format", x.format(0, 1, 5), 1);
        Check.is("the rest of the mark stays", Check.letter(x, 0), "a:5 2/4/4/5");
        x.author(2);
        Check.is("another's, the old format", x.format(0, 1, 5), 0);
        Check.is("nobody formatted it", Check.letter(x, 0), "a:5 2/4/0/-1");
    }

    private static void countsFormatsNotMarks() {
        Subject x = Check.holding("ab");
        Check.tracked(x, 1);
        x.format(0, 2, 5);
        x.track(false);
        Check.is("the same format, untracked", x.format(0, 2, 5), 0);
        Check.is("the text", Check.text(x), "a:5 0/0/0/-1, b:5 0/0/0/-1");
        Check.is("that is an edit", x.undo(), 1);
        Check.is("the text", Check.text(x), "a:5 0/0/2/0, b:5 0/0/2/0");
    }

    private static void wrongArguments() {
        Subject x = Check.holding("abc");
        Check.index("format(0, 4, 1)", x, () -> x.format(0, 4, 1));
        Check.index("format(-1, 1, 1)", x, () -> x.format(-1, 1, 1));
        Check.index("format(0, -1, 1)", x, () -> x.format(0, -1, 1));
        Check.index("format(4, 0, 1)", x, () -> x.format(4, 0, 1));
        Check.index("format(2, MAX, 1)", x, () -> x.format(2, Integer.MAX_VALUE, 1));
        Check.argument("format(0, 3, -1)", x, () -> x.format(0, 3, -1));
        Check.argument("format(0, 3, 256)", x, () -> x.format(0, 3, 256));
        Check.argument("format(0, 0, 256)", x, () -> x.format(0, 0, 256));
        Check.index("no range, no format", x, () -> x.format(0, 4, 256));
    }

    /** "of how many characters the format is another one then": from none to all 600. */
    private static void ofHowManyItIsAnotherOne() {
        Subject x = Check.holding(600);
        Check.is("format(0, 600, 255)", x.format(0, 600, 255), 600);
        Check.is("format(599, 1, 0)", x.format(599, 1, 0), 1);
        Check.is("format(0, 600, 0)", x.format(0, 600, 0), 599);
        Check.is("format(0, 600, 0) again", x.format(0, 600, 0), 0);
        Check.tracked(x, 2);
        Check.is("format(0, 600, 1), tracked", x.format(0, 600, 1), 600);
        Check.is("format(300, 300, 0), back to the old", x.format(300, 300, 0), 300);
        Check.is("count(0)", x.count(0), 1);
    }

    /** A range of none has no character whose format could be another one. */
    private static void ofNone() {
        Subject x = Check.holding("abc");
        String before = Check.all(x);
        for (int at = 0; at <= 3; at++) {
            Check.is("format(" + at + ", 0, 9)", x.format(at, 0, 9), 0);
        }
        Check.is("the state", Check.all(x), before);
        Check.is("format(0, 0, 0) of a new object", new Subject().format(0, 0, 0), 0);
    }
}
