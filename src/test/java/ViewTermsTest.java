/** Terms: the three views, and that there is no other one. A test for each clause. */
public final class ViewTermsTest {
    public static void main(String[] args) {
        threeViews();
        allCharacters();
        leftIfAllAccepted();
        leftIfAllRejected();
        formatsThatTheyWouldHave();
        inNeitherOfTheTwo();
        emptyViews();
        fullViews();
        viewsOfAnEmptyText();
        Check.end();
    }

    /** Eight characters of format 1, one for each choice of inserted, erased, formatted (to 2), by 0, 3 and 7. */
    private static Subject marked() {
        Subject x = new Subject();
        x.insert(0, Check.codes("abcd"), 1);
        Check.tracked(x, 0);
        x.insert(4, Check.codes("efgh"), 1);
        x.author(3);
        x.erase(2, 2);
        x.erase(6, 2);
        x.author(7);
        for (int at = 1; at < 8; at += 2) {
            x.format(at, 1, 2);
        }
        return x;
    }

    private static String view(Subject x, int view) {
        StringBuilder row = new StringBuilder();
        for (int i = 0; i < x.length(view); i++) {
            row.append((char) x.seen(view, i, 0)).append(x.seen(view, i, 1)).append('@').append(x.seen(view, i, 2));
            row.append(' ');
        }
        return row.toString();
    }

    /** "There are three VIEWS" */
    private static void threeViews() {
        Subject x = marked();
        int[] wrong = {-1, -2, 3, 4, 256, 257, Integer.MIN_VALUE, Integer.MAX_VALUE};
        for (int view : wrong) {
            Check.is("length(" + view + ")", x.length(view), -1);
            for (int what = 0; what <= 2; what++) {
                int w = what;
                Check.argument("seen(" + view + ", 0, " + what + ")", x, () -> x.seen(view, 0, w));
            }
        }
        Check.is("length(0)", x.length(0), 8);
        Check.is("length(1)", x.length(1), 4);
        Check.is("length(2)", x.length(2), 4);
    }

    /** "0 all characters" */
    private static void allCharacters() {
        Check.is("view 0", view(marked(), 0), "a1@0 b2@1 c1@2 d2@3 e1@4 f2@5 g1@6 h2@7 ");
    }

    /** "1 those that would be left if all authors accepted all" */
    private static void leftIfAllAccepted() {
        Subject x = marked();
        Check.is("view 1", view(x, 1), "a1@0 b2@1 e1@4 f2@5 ");
        Check.is("accept(0, 8, 255)", x.accept(0, 8, 255), 7);
        Check.is("view 0 then", view(x, 0), "a1@0 b2@1 e1@2 f2@3 ");
        Check.is("view 1 then", view(x, 1), "a1@0 b2@1 e1@2 f2@3 ");
        Check.is("view 2 then", view(x, 2), "a1@0 b2@1 e1@2 f2@3 ");
    }

    /** "2 those that would be left if all rejected all" */
    private static void leftIfAllRejected() {
        Subject x = marked();
        Check.is("view 2", view(x, 2), "a1@0 b1@1 c1@2 d1@3 ");
        Check.is("reject(0, 8, 255)", x.reject(0, 8, 255), 7);
        Check.is("view 0 then", view(x, 0), "a1@0 b1@1 c1@2 d1@3 ");
        Check.is("view 1 then", view(x, 1), "a1@0 b1@1 c1@2 d1@3 ");
        Check.is("view 2 then", view(x, 2), "a1@0 b1@1 c1@2 d1@3 ");
    }

    /** "with the formats that they would have" */
    private static void formatsThatTheyWouldHave() {
        Subject x = new Subject();
        x.insert(0, Check.codes("a"), 255);
        x.insert(1, Check.codes("b"), 0);
        Check.tracked(x, 0);
        x.format(0, 1, 0);
        x.format(1, 1, 255);
        x.author(7);
        x.format(0, 2, 128);
        Check.is("view 0", view(x, 0), "a128@0 b128@1 ");
        Check.is("view 1", view(x, 1), "a128@0 b128@1 ");
        Check.is("view 2", view(x, 2), "a255@0 b0@1 ");
    }

    /** Both sentences: what is inserted and erased is left in neither case. */
    private static void inNeitherOfTheTwo() {
        Subject x = new Subject();
        Check.tracked(x, 0);
        x.insert(0, Check.codes("a"), 0);
        x.author(1);
        x.erase(0, 1);
        lengths(x, 1, 0, 0);
        Check.index("seen(1, 0, 0)", x, () -> x.seen(1, 0, 0));
        Check.index("seen(2, 0, 0)", x, () -> x.seen(2, 0, 0));
        Check.is("seen(0, 0, 0)", x.seen(0, 0, 0), 'a');
    }

    /** A view may be empty though the text is not. */
    private static void emptyViews() {
        Subject x = Check.holding("abc");
        Check.tracked(x, 1);
        x.erase(0, 3);
        lengths(x, 3, 0, 3);
        Check.index("seen(1, 0, 2)", x, () -> x.seen(1, 0, 2));
        Check.is("seen(2, 2, 2)", x.seen(2, 2, 2), 2);
        Subject y = new Subject();
        Check.tracked(y, 1);
        y.insert(0, Check.codes("abc"), 0);
        lengths(y, 3, 3, 0);
        Check.index("seen(2, 0, 2)", y, () -> y.seen(2, 0, 2));
        Check.is("seen(1, 2, 2)", y.seen(1, 2, 2), 2);
    }

    /** Views of a full text, to the last character. */
    private static void fullViews() {
        Subject x = Check.holding(600);
        lengths(x, 600, 600, 600);
        Check.tracked(x, 1);
        x.erase(0, 599);
        lengths(x, 600, 1, 600);
        Check.is("seen(1, 0, 2)", x.seen(1, 0, 2), 599);
        Check.is("seen(2, 599, 2)", x.seen(2, 599, 2), 599);
        Check.index("seen(1, 1, 2)", x, () -> x.seen(1, 1, 2));
        Check.index("seen(2, 600, 2)", x, () -> x.seen(2, 600, 2));
    }

    private static void viewsOfAnEmptyText() {
        Subject x = new Subject();
        lengths(x, 0, 0, 0);
        for (int v = 0; v <= 2; v++) {
            int view = v;
            Check.index("seen(" + view + ", 0, 0)", x, () -> x.seen(view, 0, 0));
            Check.index("seen(" + view + ", -1, 0)", x, () -> x.seen(view, -1, 0));
        }
    }

    private static void lengths(Subject x, int all, int accepted, int rejected) {
        Check.is("length(0)", x.length(0), all);
        Check.is("length(1)", x.length(1), accepted);
        Check.is("length(2)", x.length(2), rejected);
    }
}
