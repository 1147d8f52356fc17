/** Promise 14: seen() tells of the characters of a view. */
public final class SeenTest {
    public static void main(String[] args) {
        codes();
        formats();
        places();
        asIfAllAccepted();
        wrongArguments();
        otherWhats();
        lastOfEachView();
        Check.end();
    }

    /** a erased, b formatted from 1 to 5, c plain, d inserted, e inserted and erased, f inserted and formatted. */
    private static Subject marked() {
        Subject x = new Subject();
        x.insert(0, Check.codes("abc"), 1);
        Check.tracked(x, 1);
        x.erase(0, 1);
        x.format(1, 1, 5);
        x.insert(3, Check.codes("def"), 2);
        x.author(2);
        x.erase(4, 1);
        x.format(5, 1, 6);
        return x;
    }

    private static void codes() {
        Subject x = marked();
        Check.is("view 0", Check.view(x, 0), "abcdef");
        Check.is("view 1", Check.view(x, 1), "bcdf");
        Check.is("view 2", Check.view(x, 2), "abc");
    }

    private static void formats() {
        Subject x = marked();
        Check.is("view 0", row(x, 0, 1), "1 5 1 2 2 6 ");
        Check.is("view 1", row(x, 1, 1), "5 1 2 6 ");
        Check.is("view 2", row(x, 2, 1), "1 1 1 ");
    }

    private static void places() {
        Subject x = marked();
        Check.is("view 0", row(x, 0, 2), "0 1 2 3 4 5 ");
        Check.is("view 1", row(x, 1, 2), "1 2 3 5 ");
        Check.is("view 2", row(x, 2, 2), "0 1 2 ");
    }

    private static void asIfAllAccepted() {
        Subject x = marked();
        String accepted = row(x, 1, 0) + row(x, 1, 1);
        String rejected = row(x, 2, 0) + row(x, 2, 1);
        x.accept(0, 6, 255);
        Check.is("all accepted", row(x, 0, 0) + row(x, 0, 1), accepted);
        x.undo();
        x.reject(0, 6, 255);
        Check.is("all rejected", row(x, 0, 0) + row(x, 0, 1), rejected);
    }

    private static String row(Subject x, int view, int what) {
        StringBuilder row = new StringBuilder();
        for (int i = 0; i < x.length(view); i++) {
            row.append(x.seen(view, i, what)).append(' ');
        }
        return row.toString();
    }

    private static void wrongArguments() {
        Subject x = marked();
        int[] lengths = {6, 4, 3};
        for (int v = 0; v < 3; v++) {
            int view = v;
            Check.index("seen(" + view + ", length, 0)", x, () -> x.seen(view, lengths[view], 0));
            Check.index("seen(" + view + ", -1, 1)", x, () -> x.seen(view, -1, 1));
            Check.index("seen(" + view + ", MAX, 2)", x, () -> x.seen(view, Integer.MAX_VALUE, 2));
            Check.index("seen(" + view + ", MIN, 2)", x, () -> x.seen(view, Integer.MIN_VALUE, 2));
            Check.argument("seen(" + view + ", 0, 3)", x, () -> x.seen(view, 0, 3));
            Check.argument("seen(" + view + ", 0, -1)", x, () -> x.seen(view, 0, -1));
        }
        Check.argument("seen(3, 0, 0)", x, () -> x.seen(3, 0, 0));
        Check.argument("seen(-1, 0, 0)", x, () -> x.seen(-1, 0, 0));
        Check.argument("no view, no place", x, () -> x.seen(3, 99, 0));
        Check.argument("no what, no place", x, () -> x.seen(0, 99, 3));
    }

    /** "IllegalArgumentException: also for another what." */
    private static void otherWhats() {
        Subject x = marked();
        int[] wrong = {-1, 3, 4, 256, Integer.MIN_VALUE, Integer.MAX_VALUE};
        for (int what : wrong) {
            for (int v = 0; v < 3; v++) {
                int view = v;
                Check.argument("seen(" + view + ", 0, " + what + ")", x, () -> x.seen(view, 0, what));
                Check.argument("seen(" + view + ", 600, " + what + ")", x, () -> x.seen(view, 600, what));
            }
        }
        Subject y = new Subject();
        Check.argument("seen(0, 0, 3) of a new object", y, () -> y.seen(0, 0, 3));
    }

    /** "Of character i of a view": there is one up to the view's length less 1, not the text's. */
    private static void lastOfEachView() {
        Subject x = marked();
        Check.is("the last of view 0", x.seen(0, 5, 0), 'f');
        Check.is("the last of view 1", x.seen(1, 3, 0), 'f');
        Check.is("the last of view 2", x.seen(2, 2, 0), 'c');
        Check.index("seen(0, 6, 0)", x, () -> x.seen(0, 6, 0));
        Check.index("seen(1, 4, 0)", x, () -> x.seen(1, 4, 0));
        Check.index("seen(1, 5, 0)", x, () -> x.seen(1, 5, 0));
        Check.index("seen(2, 3, 0)", x, () -> x.seen(2, 3, 0));
        Check.index("seen(2, 5, 0)", x, () -> x.seen(2, 5, 0));
    }
}
