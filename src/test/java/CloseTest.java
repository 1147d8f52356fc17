/** Promise 10: close() ends the group that is open. */
public final class CloseTest {
    public static void main(String[] args) {
        noneIsOpen();
        countsEditsThatChange();
        aGroupThatIsNone();
        editsThatCancelOut();
        thrownEditsDontCount();
        forgetsWhenItEnds();
        zeroIsNone();
        noneOpenInAnyState();
        fullHistory();
        manyEdits();
        Check.end();
    }

    private static void noneIsOpen() {
        Subject x = Check.holding("a");
        Check.state("close()", x, x::close);
        x.open();
        x.close();
        Check.state("close() again", x, x::close);
        Check.is("count(6)", x.count(6), 0);
    }

    private static void countsEditsThatChange() {
        Subject x = Check.holding("abc");
        x.open();
        x.insert(0, Check.codes("n"), 0);
        x.format(0, 4, 0);
        x.format(0, 4, 1);
        x.erase(2, 0);
        x.accept(0, 4, 255);
        x.reject(0, 4, 255);
        x.erase(2, 1);
        Check.is("close()", x.close(), 3);
        Check.is("count(2)", x.count(2), 2);
        Check.is("count(4)", x.count(4), 3 + 1 + 8 + 1);
        Check.is("undo()", x.undo(), 3);
        Check.is("redo()", x.redo(), 3);
    }

    private static void aGroupThatIsNone() {
        Subject x = Check.holding("abc");
        x.open();
        Check.is("close() at once", x.close(), 0);
        x.open();
        x.format(0, 3, 0);
        x.erase(3, 0);
        Check.is("close() behind edits without a change", x.close(), 0);
        Check.is("count(2)", x.count(2), 1);
        Check.is("undo()", x.undo(), 1);
        x.open();
        Check.is("close() with one to redo", x.close(), 0);
        Check.is("count(3)", x.count(3), 1);
        Check.is("redo()", x.redo(), 1);
        Check.is("the text", Check.view(x, 0), "abc");
    }

    private static void editsThatCancelOut() {
        Subject x = new Subject();
        x.open();
        x.insert(0, Check.codes("ab"), 0);
        x.erase(0, 2);
        Check.is("close()", x.close(), 2);
        Check.is("count(2)", x.count(2), 1);
        Check.is("count(4)", x.count(4), 4);
        Check.is("undo()", x.undo(), 2);
        Check.is("count(5)", x.count(5), 4);
    }

    private static void thrownEditsDontCount() {
        Subject x = Check.holding("abc");
        x.open();
        Check.index("erase(0, 4)", x, () -> x.erase(0, 4));
        Check.argument("insert(0, 0, 0)", x, () -> x.insert(0, 0, 0));
        Check.is("close()", x.close(), 0);
    }

    private static void forgetsWhenItEnds() {
        Subject x = Check.holding(600);
        x.open();
        x.format(0, 600, 1);
        x.format(0, 600, 2);
        x.format(0, 600, 3);
        Check.is("count(2) while it is open", x.count(2), 40);
        Check.is("count(4) while it is open", x.count(4), 320);
        Check.is("close() of a weight of 3600", x.close(), 3);
        Check.is("count(2)", x.count(2), 0);
        Check.is("count(4)", x.count(4), 0);
        Check.state("undo()", x, x::undo);
        Check.state("redo()", x, x::redo);
        Check.is("the format stays", x.seen(0, 300, 1), 3);
    }

    /** "(0: then it is none)" */
    private static void zeroIsNone() {
        Subject x = Check.holding("abc");
        x.insert(3, Check.codes("d"), 0);
        x.undo();
        String before = Check.all(x);
        x.open();
        x.erase(3, 0);
        x.format(0, 3, 0);
        x.accept(0, 3, 255);
        x.reject(0, 3, 255);
        Check.is("close()", x.close(), 0);
        Check.is("the state", Check.all(x), before);
    }

    /** "IllegalStateException: none is open.": not before open(), not behind close(), undo(), redo(). */
    private static void noneOpenInAnyState() {
        Subject x = new Subject();
        Check.state("close() of a new object", x, x::close);
        x.insert(0, Check.codes("a"), 0);
        Check.state("close() behind an edit", x, x::close);
        x.undo();
        Check.state("close() behind undo()", x, x::close);
        x.redo();
        Check.state("close() behind redo()", x, x::close);
        x.open();
        x.erase(0, 1);
        x.close();
        Check.state("close() behind close()", x, x::close);
    }

    /** A group that is none forgets nothing, even where forty can be undone. */
    private static void fullHistory() {
        Subject x = new Subject();
        for (int i = 0; i < 40; i++) {
            x.insert(i, Check.codes("a"), i);
        }
        x.open();
        x.erase(0, 0);
        Check.is("close() of none", x.close(), 0);
        Check.is("count(2)", x.count(2), 40);
        x.open();
        x.format(0, 40, 99);
        x.erase(0, 1);
        Check.is("close() of the 41st", x.close(), 2);
        Check.is("count(2)", x.count(2), 40);
        Check.is("count(4)", x.count(4), 39 + 81);
        Check.is("undo()", x.undo(), 2);
        Check.is("the text behind it", x.seen(0, 39, 1), 39);
    }

    /** "how many edits it has that changed the text": as many as an object's calls allow. */
    private static void manyEdits() {
        Subject x = new Subject();
        x.open();
        for (int i = 0; i < 500; i++) {
            x.insert(i, Check.codes("a"), 0);
        }
        Check.is("close()", x.close(), 500);
        Check.is("count(4)", x.count(4), 500);
        Check.is("undo()", x.undo(), 500);
        Check.is("redo()", x.redo(), 500);
        Check.is("length(0)", x.length(0), 500);
    }
}
