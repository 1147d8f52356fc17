/** Promise 5: erase() erases a range. */
public final class EraseTest {
    public static void main(String[] args) {
        untracked();
        untrackedWhateverTheMarks();
        tracked();
        rangeOfNone();
        wrongRanges();
        ofAFullText();
        rangeOfNoneTracked();
        Check.end();
    }

    private static void untracked() {
        Subject x = Check.holding("abcdef");
        Check.is("erase(1, 2)", x.erase(1, 2), 4);
        Check.is("the text", Check.view(x, 0), "adef");
        Check.is("erase(3, 1) at the end", x.erase(3, 1), 3);
        Check.is("the text", Check.view(x, 0), "ade");
        Check.is("erase(0, 3) of all", x.erase(0, 3), 0);
    }

    private static void untrackedWhateverTheMarks() {
        Subject x = Check.holding("ab");
        Check.tracked(x, 1);
        x.insert(2, Check.codes("c"), 0);
        x.erase(0, 1);
        x.format(1, 1, 5);
        x.author(2);
        x.track(false);
        Check.is("erase(0, 3)", x.erase(0, 3), 0);
    }

    private static void tracked() {
        Subject x = Check.holding("ab");
        Check.tracked(x, 1);
        x.insert(2, Check.codes("cd"), 0);
        Check.is("erase of another's and one's own", x.erase(1, 2), 3);
        Check.is("the text", Check.text(x), "a:0 0/0/0/-1, b:0 0/2/0/-1, d:0 2/0/0/-1");
        x.author(4);
        Check.is("one more author erases", x.erase(0, 3), 3);
        Check.is("the text", Check.text(x), "a:0 0/16/0/-1, b:0 0/18/0/-1, d:0 2/16/0/-1");
        Check.is("an author erases again", x.erase(0, 3), 3);
        Check.is("the text", Check.text(x), "a:0 0/16/0/-1, b:0 0/18/0/-1, d:0 2/16/0/-1");
        x.author(1);
        Check.is("one's own that another erased goes", x.erase(2, 1), 2);
        Check.is("erase leaves a format's mark", eraseOfFormatted(), "a:7 0/8/4/0");
    }

    private static String eraseOfFormatted() {
        Subject x = Check.holding("a");
        Check.tracked(x, 2);
        x.format(0, 1, 7);
        x.author(3);
        x.erase(0, 1);
        return Check.letter(x, 0);
    }

    private static void rangeOfNone() {
        Subject x = Check.holding("abc");
        String before = Check.all(x);
        for (int at = 0; at <= 3; at++) {
            Check.is("erase(" + at + ", 0)", x.erase(at, 0), 3);
        }
        Check.is("the state behind erase of none", Check.all(x), before);
        Check.is("erase(0, 0) of a new object", new Subject().erase(0, 0), 0);
    }

    private static void wrongRanges() {
        Subject x = Check.holding("abc");
        int[][] wrong = {
            {-1, 1}, {-1, 0}, {4, 0}, {0, 4}, {3, 1}, {1, 3}, {0, -1}, {2, -1}, {4, -1}, {-1, -1},
            {1, Integer.MAX_VALUE}, {Integer.MAX_VALUE, 1}, {Integer.MAX_VALUE, Integer.MAX_VALUE},
            {0, Integer.MIN_VALUE}, {Integer.MIN_VALUE, 0}, {Integer.MIN_VALUE, Integer.MIN_VALUE},
            {Integer.MIN_VALUE, Integer.MAX_VALUE}, {Integer.MAX_VALUE, Integer.MIN_VALUE},
        };
        for (int[] r : wrong) {
            Check.index("erase(" + r[0] + ", " + r[1] + ")", x, () -> x.erase(r[0], r[1]));
        }
    }

    /** "how long the text is": of a full text, tracked and not. */
    private static void ofAFullText() {
        Subject x = Check.holding(600);
        Check.tracked(x, 3);
        Check.is("erase(0, 600), tracked", x.erase(0, 600), 600);
        Check.is("length(1)", x.length(1), 0);
        x.track(false);
        Check.is("erase(599, 1)", x.erase(599, 1), 599);
        Check.is("erase(0, 599)", x.erase(0, 599), 0);
        Check.is("erase(0, 0) of nothing", x.erase(0, 0), 0);
    }

    /** "Erases a range (perhaps of none)": tracked, too, it leaves what can be redone. */
    private static void rangeOfNoneTracked() {
        Subject x = Check.holding("abc");
        Check.tracked(x, 3);
        x.erase(0, 1);
        x.undo();
        for (int at = 0; at <= 3; at++) {
            Check.is("erase(" + at + ", 0)", x.erase(at, 0), 3);
        }
        Check.is("count(3)", x.count(3), 1);
        Check.is("count(0)", x.count(0), 0);
    }
}
