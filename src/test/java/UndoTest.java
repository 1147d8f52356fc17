/** Promise 11: undo() undoes the latest group. */
public final class UndoTest {
    public static void main(String[] args) {
        allKindsOfEdits();
        groups();
        wrongStates();
        fortyGroups();
        weightOfThreeThousand();
        asFewAsNeedBe();
        aGroupIsOpen();
        noneCanBeUndone();
        Check.end();
    }

    private static void allKindsOfEdits() {
        Subject x = Check.holding("abcd");
        Check.tracked(x, 1);
        String[] texts = new String[6];
        texts[0] = Check.text(x);
        x.insert(2, Check.codes("xy"), 3);
        texts[1] = Check.text(x);
        x.erase(0, 3);
        texts[2] = Check.text(x);
        x.author(2);
        x.format(1, 3, 9);
        texts[3] = Check.text(x);
        x.accept(0, 3, 2);
        texts[4] = Check.text(x);
        x.reject(0, x.length(0), 255);
        texts[5] = Check.text(x);
        for (int i = 4; i >= 0; i--) {
            Check.is("undo()", x.undo(), 1);
            Check.is("the text behind undo()", Check.text(x), texts[i]);
        }
        Check.is("undo() of the first one", x.undo(), 1);
        Check.is("length(0)", x.length(0), 0);
        Check.state("undo() of none", x, x::undo);
    }

    private static void groups() {
        Subject x = Check.holding("abcd");
        x.open();
        x.erase(0, 1);
        x.erase(2, 1);
        x.insert(1, Check.codes("z"), 0);
        x.close();
        Check.is("the text", Check.view(x, 0), "bzc");
        Check.is("undo()", x.undo(), 3);
        Check.is("the text behind undo()", Check.view(x, 0), "abcd");
        Check.is("count(2)", x.count(2), 1);
        Check.is("count(3)", x.count(3), 1);
    }

    private static void wrongStates() {
        Subject x = Check.holding("ab");
        x.open();
        Check.state("undo() in a group", x, x::undo);
        x.erase(0, 1);
        Check.state("undo() in a group with an edit", x, x::undo);
        x.close();
        Check.is("undo()", x.undo(), 1);
        Check.is("the text", Check.view(x, 0), "ab");
    }

    private static void fortyGroups() {
        Subject x = new Subject();
        for (int i = 0; i < 40; i++) {
            x.insert(i, Check.codes("a"), i);
        }
        Check.is("count(2) of 40", x.count(2), 40);
        x.insert(40, Check.codes("a"), 40);
        Check.is("count(2) of 41", x.count(2), 40);
        for (int i = 0; i < 40; i++) {
            Check.is("undo() " + i, x.undo(), 1);
            Check.is("length(0)", x.length(0), 40 - i);
        }
        Check.state("undo() of a forgotten one", x, x::undo);
        Check.is("count(3)", x.count(3), 40);
        for (int i = 0; i < 40; i++) {
            Check.is("redo() " + i, x.redo(), 1);
        }
        Check.is("length(0)", x.length(0), 41);
        Check.is("the last format", x.seen(0, 40, 1), 40);
    }

    private static void weightOfThreeThousand() {
        Subject x = Check.holding(500);
        x.open();
        x.format(0, 500, 1);
        x.format(0, 500, 2);
        x.format(0, 500, 3);
        Check.is("close() of a weight of 3000", x.close(), 3);
        Check.is("count(2)", x.count(2), 1);
        Check.is("count(4)", x.count(4), 3000);
        Check.is("undo()", x.undo(), 3);
        Check.is("the format behind undo()", x.seen(0, 499, 1), 0);
        Check.is("redo()", x.redo(), 3);
        x.insert(0, Check.codes("y"), 3);
        Check.is("count(2) of 3001", x.count(2), 1);
        Check.is("count(4) of 3001", x.count(4), 1);
    }

    private static void asFewAsNeedBe() {
        Subject x = Check.holding(600);
        x.format(0, 600, 1);
        x.format(0, 600, 2);
        x.format(0, 300, 3);
        Check.is("count(2) of 3000", x.count(2), 3);
        Check.is("count(4) of 3000", x.count(4), 3000);
        x.format(0, 1, 4);
        Check.is("count(2) of 3002", x.count(2), 3);
        Check.is("count(4) of 3002", x.count(4), 1802);
        Check.is("undo()", x.undo(), 1);
        Check.is("undo()", x.undo(), 1);
        Check.is("undo()", x.undo(), 1);
        Check.is("the format", x.seen(0, 0, 1), 1);
        Check.is("count(5)", x.count(5), 1802);
        Check.state("undo() of a forgotten one", x, x::undo);
    }

    /** "IllegalStateException: a group is open": with none to undo, with some, with an edit of its own. */
    private static void aGroupIsOpen() {
        Subject x = new Subject();
        x.open();
        Check.state("undo() with none to undo", x, x::undo);
        x.insert(0, Check.codes("a"), 0);
        Check.state("undo() of the open group's edit", x, x::undo);
        x.close();
        x.open();
        Check.state("undo() with one to undo", x, x::undo);
        x.close();
        Check.is("undo()", x.undo(), 1);
        Check.is("length(0)", x.length(0), 0);
    }

    /** "or none can be undone": at first, when all are undone, when all are forgotten. */
    private static void noneCanBeUndone() {
        Subject x = new Subject();
        Check.state("undo() of a new object", x, x::undo);
        x.open();
        x.close();
        Check.state("undo() behind a group that is none", x, x::undo);
        x.insert(0, Check.codes("a"), 0);
        x.undo();
        Check.state("undo() behind the only undo()", x, x::undo);
        x.redo();
        Check.is("undo() behind redo()", x.undo(), 1);
        Subject y = Check.holding(600);
        y.open();
        y.format(0, 600, 1);
        y.format(0, 600, 2);
        y.format(0, 600, 3);
        y.close();
        Check.state("undo() when all are forgotten", y, y::undo);
    }
}
