/** Promise 2: author() lets another author be at work, and is no edit. */
public final class AuthorTest {
    public static void main(String[] args) {
        answersWhoWasBefore();
        wrongAuthors();
        editsAreTheAuthors();
        isNoEdit();
        theSameAgain();
        undoLeavesBoth();
        refusedInAGroup();
        Check.end();
    }

    private static void answersWhoWasBefore() {
        Subject x = new Subject();
        int before = 0;
        for (int author = 7; author >= 0; author--) {
            Check.is("author(" + author + ")", x.author(author), before);
            before = author;
        }
        Check.is("author(0), the same one", x.author(0), 0);
    }

    private static void wrongAuthors() {
        Subject x = new Subject();
        x.author(6);
        int[] wrong = {-1, 8, 9, 255, Integer.MIN_VALUE, Integer.MAX_VALUE};
        for (int author : wrong) {
            Check.argument("author(" + author + ")", x, () -> x.author(author));
        }
        Check.is("author(6) behind wrong ones", x.author(6), 6);
    }

    private static void editsAreTheAuthors() {
        for (int author = 0; author < 8; author++) {
            Subject x = Check.holding("ab");
            Check.tracked(x, author);
            x.insert(0, Check.codes("n"), 0);
            x.erase(1, 1);
            x.format(2, 1, 9);
            int bit = 1 << author;
            Check.is("author " + author, Check.text(x),
                "n:0 " + bit + "/0/0/-1, a:0 0/" + bit + "/0/-1, b:9 0/0/" + bit + "/0");
        }
    }

    private static void isNoEdit() {
        Subject x = Check.holding("ab");
        x.author(4);
        x.undo();
        Check.is("author() behind undo()", x.author(5), 4);
        Check.is("count(3) behind author()", x.count(3), 1);
        x.redo();
        Check.is("author() behind redo()", x.author(2), 5);
        x.open();
        x.author(1);
        Check.is("close() of a group with author() alone", x.close(), 0);
        Check.is("count(2)", x.count(2), 1);
    }

    /** "Another author (or the same) is at work" */
    private static void theSameAgain() {
        for (int author = 0; author < 8; author++) {
            Subject x = new Subject();
            x.author(author);
            Check.is("author(" + author + ") again", x.author(author), author);
            x.track(true);
            x.insert(0, Check.codes("a"), 0);
            Check.is("the mark", x.mark(0, 0), 1 << author);
        }
    }

    /** "undo() leaves both": the author and tracking are those of now, not those of the group. */
    private static void undoLeavesBoth() {
        Subject x = new Subject();
        Check.tracked(x, 1);
        x.insert(0, Check.codes("a"), 0);
        x.author(2);
        x.track(false);
        x.undo();
        x.insert(0, Check.codes("b"), 0);
        Check.is("untracked behind undo()", Check.text(x), "b:0 0/0/0/-1");
        x.undo();
        Check.tracked(x, 3);
        x.redo();
        x.insert(1, Check.codes("c"), 0);
        Check.is("tracked behind redo()", Check.text(x), "b:0 0/0/0/-1, c:0 8/0/0/-1");
    }

    /** "IllegalArgumentException: there is no such author", in an open group, too. */
    private static void refusedInAGroup() {
        Subject x = Check.holding("a");
        Check.tracked(x, 7);
        x.open();
        Check.argument("author(8)", x, () -> x.author(8));
        x.erase(0, 1);
        Check.is("erased by 7", x.mark(0, 1), 128);
    }
}
