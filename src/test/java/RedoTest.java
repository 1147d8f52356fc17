/** Promise 12: redo() redoes the group that was undone last. */
public final class RedoTest {
    public static void main(String[] args) {
        redoesInOrder();
        groups();
        wrongStates();
        anEditEndsIt();
        whatChangesNothingDoesNot();
        aGroupIsOpen();
        noneCanBeRedone();
        Check.end();
    }

    private static void redoesInOrder() {
        Subject x = new Subject();
        String[] texts = new String[5];
        texts[0] = Check.text(x);
        x.insert(0, Check.codes("abc"), 0);
        texts[1] = Check.text(x);
        Check.tracked(x, 3);
        x.erase(1, 1);
        texts[2] = Check.text(x);
        x.format(0, 2, 5);
        texts[3] = Check.text(x);
        x.accept(0, 3, 8);
        texts[4] = Check.text(x);
        for (int round = 0; round < 3; round++) {
            for (int i = 3; i >= 0; i--) {
                Check.is("undo()", x.undo(), 1);
                Check.is("the text behind undo()", Check.text(x), texts[i]);
            }
            for (int i = 1; i <= 4; i++) {
                Check.is("redo()", x.redo(), 1);
                Check.is("the text behind redo()", Check.text(x), texts[i]);
            }
        }
        Check.state("redo() of none", x, x::redo);
    }

    private static void groups() {
        Subject x = Check.holding("abcd");
        x.open();
        x.erase(0, 1);
        x.erase(2, 1);
        x.close();
        x.insert(0, Check.codes("z"), 0);
        x.undo();
        x.undo();
        Check.is("count(3)", x.count(3), 2);
        Check.is("redo()", x.redo(), 2);
        Check.is("the text", Check.view(x, 0), "bc");
        Check.is("count(2)", x.count(2), 2);
        Check.is("count(3)", x.count(3), 1);
        Check.is("redo()", x.redo(), 1);
        Check.is("the text", Check.view(x, 0), "zbc");
    }

    private static void wrongStates() {
        Subject x = Check.holding("ab");
        Check.state("redo() of none", x, x::redo);
        x.undo();
        x.open();
        Check.state("redo() in a group", x, x::redo);
        x.close();
        Check.is("redo()", x.redo(), 1);
    }

    private static void anEditEndsIt() {
        Subject x = Check.holding("ab");
        x.insert(2, Check.codes("c"), 0);
        x.undo();
        x.insert(2, Check.codes("d"), 0);
        Check.is("count(3)", x.count(3), 0);
        Check.state("redo()", x, x::redo);
        Check.is("undo()", x.undo(), 1);
        Check.is("the text", Check.view(x, 0), "ab");
        Check.is("redo()", x.redo(), 1);
        Check.is("the text", Check.view(x, 0), "abd");
    }

    private static void whatChangesNothingDoesNot() {
        Subject x = Check.holding("ab");
        x.insert(2, Check.codes("c"), 0);
        x.undo();
        x.erase(1, 0);
        x.format(0, 2, 0);
        x.accept(0, 2, 255);
        x.reject(0, 2, 255);
        Check.index("erase(0, 3)", x, () -> x.erase(0, 3));
        x.author(3);
        x.track(true);
        Check.is("count(3)", x.count(3), 1);
        Check.is("redo()", x.redo(), 1);
        Check.is("the text", Check.text(x), "a:0 0/0/0/-1, b:0 0/0/0/-1, c:0 0/0/0/-1");
    }

    /** "IllegalStateException: a group is open": with none to redo, and with some. */
    private static void aGroupIsOpen() {
        Subject x = new Subject();
        x.open();
        Check.state("redo() with none to redo", x, x::redo);
        x.close();
        x.insert(0, Check.codes("a"), 0);
        x.undo();
        x.open();
        Check.state("redo() with one to redo", x, x::redo);
        x.erase(0, 0);
        Check.state("redo() behind an edit that changes nothing", x, x::redo);
        x.close();
        Check.is("redo()", x.redo(), 1);
        Check.is("length(0)", x.length(0), 1);
    }

    /** "or none can be redone": at first, behind an edit, when all are redone. */
    private static void noneCanBeRedone() {
        Subject x = new Subject();
        Check.state("redo() of a new object", x, x::redo);
        x.insert(0, Check.codes("a"), 0);
        Check.state("redo() behind an edit", x, x::redo);
        x.undo();
        Check.is("redo()", x.redo(), 1);
        Check.state("redo() behind redo()", x, x::redo);
        x.undo();
        x.open();
        x.insert(0, Check.codes("b"), 0);
        x.erase(0, 1);
        x.close();
        Check.state("redo() behind a group", x, x::redo);
    }
}
