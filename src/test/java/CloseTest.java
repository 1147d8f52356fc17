/** Promise 10: close() ends the group that is open. */
public final class CloseTest {
    public static void main(String[] args) {
        noneIsOpen();
        countsEditsThatChange();
        aGroupThatIsNone();
        editsThatCancelOut();
        thrownEditsDontCount();
        forgetsWhenItEnds();
        Check.end();
    }

    private static void noneIsOpen() {
        ChangeTracker x = Check.holding("a");
        Check.state("close()", x, x::close);
        x.open();
        x.close();
        Check.state("close() again", x, x::close);
        Check.is("count(6)", x.count(6), 0);
    }

    private static void countsEditsThatChange() {
        ChangeTracker x = Check.holding("abc");
        x.open();
        x.insert(0, Check.codes("n"), 0);
        x.format(0, 4, 0);
        x.format(0, 4, 1);
        x.erase(2, 0);
        x.accept(0, 4, 255);
        x.reject(0, 4, 255);
        x.erase(2, 1);
        Check.is("close()", x.close(), 3);
        Check.is("count(2)", x.count(2), 2);
        Check.is("count(4)", x.count(4), 3 + 1 + 8 + 1);
        Check.is("undo()", x.undo(), 3);
        Check.is("redo()", x.redo(), 3);
    }

    private static void aGroupThatIsNone() {
        ChangeTracker x = Check.holding("abc");
        x.open();
        Check.is("close() at once", x.close(), 0);
        x.open();
        x.format(0, 3, 0);
        x.erase(3, 0);
        Check.is("close() behind edits without a change", x.close(), 0);
        Check.is("count(2)", x.count(2), 1);
        Check.is("undo()", x.undo(), 1);
        x.open();
        Check.is("close() with one to redo", x.close(), 0);
        Check.is("count(3)", x.count(3), 1);
        Check.is("redo()", x.redo(), 1);
        Check.is("the text", Check.view(x, 0), "abc");
    }

    private static void editsThatCancelOut() {
        ChangeTracker x = new ChangeTracker();
        x.open();
        x.insert(0, Check.codes("ab"), 0);
        x.erase(0, 2);
        Check.is("close()", x.close(), 2);
        Check.is("count(2)", x.count(2), 1);
        Check.is("count(4)", x.count(4), 4);
        Check.is("undo()", x.undo(), 2);
        Check.is("count(5)", x.count(5), 4);
    }

    private static void thrownEditsDontCount() {
        ChangeTracker x = Check.holding("abc");
        x.open();
        Check.index("erase(0, 4)", x, () -> x.erase(0, 4));
        Check.argument("insert(0, 0, 0)", x, () -> x.insert(0, 0, 0));
        Check.is("close()", x.close(), 0);
    }

    private static void forgetsWhenItEnds() {
        ChangeTracker x = Check.holding(600);
        x.open();
        x.format(0, 600, 1);
        x.format(0, 600, 2);
        x.format(0, 600, 3);
        Check.is("count(2) while it is open", x.count(2), 40);
        Check.is("count(4) while it is open", x.count(4), 320);
        Check.is("close() of a weight of 3600", x.close(), 3);
        Check.is("count(2)", x.count(2), 0);
        Check.is("count(4)", x.count(4), 0);
        Check.state("undo()", x, x::undo);
        Check.state("redo()", x, x::redo);
        Check.is("the format stays", x.seen(0, 300, 1), 3);
    }
}
