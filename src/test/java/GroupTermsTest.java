/** Terms: groups, what is none, and what can be undone and redone. A test for each sentence. */
public final class GroupTermsTest {
    private interface Edit {
        void make(Subject x);
    }

    /** Edits that change what marked() makes, one of each kind. */
    private static final Edit[] CHANGING = {
        x -> x.insert(0, Check.codes("z"), 0),
        x -> x.erase(0, 1),
        x -> x.format(0, 1, 77),
        x -> x.accept(3, 1, 2),
        x -> x.reject(1, 1, 2),
    };

    /** Edits that leave it as it was. */
    private static final Edit[] LEAVING = {
        x -> x.erase(2, 0),
        x -> x.erase(1, 1),
        x -> x.format(0, 0, 77),
        x -> x.format(0, 1, 0),
        x -> x.format(2, 1, 9),
        x -> x.format(3, 1, 4),
        x -> x.accept(0, 4, 255 - 2),
        x -> x.accept(0, 1, 255),
        x -> x.reject(0, 4, 255 - 2),
        x -> x.reject(4, 0, 255),
    };

    public static void main(String[] args) {
        editsOfAnOpenGroupBelongToIt();
        eachOtherEditIsAGroup();
        noGroupIfEachEditLeavesTheText();
        noGroupWithoutEdits();
        oneEditThatChangesIsEnough();
        editsThatCancelOutAreAGroup();
        undoMakesTheTextWhatItWas();
        undoAndRedoOfAnEmptyAndAFullText();
        whatIsUndoneCanBeRedone();
        redoMakesTheTextWhatItWasBehind();
        anEditThatChangesEndsRedoing();
        inAnOpenGroupToo();
        anEditThatLeavesTheTextDoesNot();
        Check.end();
    }

    /** a plain, b erased, c formatted to 9, d (format 4) inserted, all by author 1, who is at work, tracked. */
    private static Subject marked() {
        Subject x = Check.holding("abc");
        Check.tracked(x, 1);
        x.erase(1, 1);
        x.format(2, 1, 9);
        x.insert(3, Check.codes("d"), 4);
        return x;
    }

    /** The same, with one more group, which can be redone. */
    private static Subject markedWithOneToRedo() {
        Subject x = marked();
        x.insert(4, Check.codes("e"), 4);
        x.undo();
        return x;
    }

    /** "Edits made while a group is open belong to it" */
    private static void editsOfAnOpenGroupBelongToIt() {
        Subject x = marked();
        String before = Check.text(x);
        x.open();
        for (Edit edit : CHANGING) {
            edit.make(x);
            Check.is("count(2) in the group", x.count(2), 4);
        }
        Check.is("close()", x.close(), 5);
        Check.is("count(2)", x.count(2), 5);
        Check.is("undo()", x.undo(), 5);
        Check.is("the text", Check.text(x), before);
    }

    /** "each other one is a group by itself" */
    private static void eachOtherEditIsAGroup() {
        for (int i = 0; i < CHANGING.length; i++) {
            Subject x = marked();
            String before = Check.text(x);
            x.open();
            x.close();
            CHANGING[i].make(x);
            Check.is("count(2) behind edit " + i, x.count(2), 5);
            Check.is("undo() of edit " + i, x.undo(), 1);
            Check.is("the text behind undo() of edit " + i, Check.text(x), before);
        }
    }

    /** "A group of which each edit leaves the text as it was .. is none." */
    private static void noGroupIfEachEditLeavesTheText() {
        for (int i = 0; i < LEAVING.length; i++) {
            Subject x = marked();
            String before = Check.all(x);
            LEAVING[i].make(x);
            Check.is("the state behind the leaving edit " + i, Check.all(x), before);
            x.open();
            LEAVING[i].make(x);
            Check.is("close() behind the leaving edit " + i, x.close(), 0);
            Check.is("the state behind a group of it", Check.all(x), before);
        }
        Subject x = marked();
        String before = Check.history(marked());
        x.open();
        for (Edit edit : LEAVING) {
            edit.make(x);
        }
        Check.is("close() behind all of them", x.close(), 0);
        Check.is("the history", Check.history(x), before);
    }

    /** "or that has no edits, is none" */
    private static void noGroupWithoutEdits() {
        Subject x = marked();
        String before = Check.all(x);
        x.open();
        Check.is("close()", x.close(), 0);
        Check.is("the state", Check.all(x), before);
        x.open();
        x.author(3);
        x.author(1);
        x.track(false);
        x.track(true);
        x.count(4);
        Check.is("close() behind calls that are no edits", x.close(), 0);
        Check.is("the state", Check.all(x), before);
    }

    /** The same sentence: "each edit". */
    private static void oneEditThatChangesIsEnough() {
        for (int i = 0; i < CHANGING.length; i++) {
            Subject x = marked();
            x.open();
            LEAVING[0].make(x);
            LEAVING[1].make(x);
            CHANGING[i].make(x);
            x.erase(0, 0);
            Check.is("close() with the changing edit " + i, x.close(), 1);
            Check.is("count(2)", x.count(2), 5);
        }
    }

    /** The same sentence: edits that change the text are a group, though it is as before behind them. */
    private static void editsThatCancelOutAreAGroup() {
        Subject x = marked();
        String before = Check.text(x);
        x.open();
        x.insert(0, Check.codes("z"), 0);
        x.erase(0, 1);
        Check.is("the text", Check.text(x), before);
        Check.is("close()", x.close(), 2);
        Check.is("count(2)", x.count(2), 5);
        Check.is("undo()", x.undo(), 2);
        Check.is("the text behind undo()", Check.text(x), before);
        Check.is("redo()", x.redo(), 2);
        Check.is("the text behind redo()", Check.text(x), before);
    }

    /** "UNDO makes the text what it was before the latest group that can be undone" */
    private static void undoMakesTheTextWhatItWas() {
        Subject x = marked();
        String[] before = new String[CHANGING.length];
        for (int i = 0; i < CHANGING.length; i++) {
            before[i] = Check.text(x);
            CHANGING[i].make(x);
        }
        Check.is("count(2)", x.count(2), 9);
        for (int i = CHANGING.length - 1; i >= 0; i--) {
            Check.is("undo()", x.undo(), 1);
            Check.is("the text behind undo() of edit " + i, Check.text(x), before[i]);
        }
    }

    /** The same sentence, with the texts that are as short and as long as can be. */
    private static void undoAndRedoOfAnEmptyAndAFullText() {
        Subject x = Check.holding(600);
        x.erase(0, 600);
        Check.is("undo() of the erasing of all", x.undo(), 1);
        Check.is("length(0)", x.length(0), 600);
        Check.is("the last code", x.seen(0, 599, 0), 'x');
        Check.is("redo() of the erasing of all", x.redo(), 1);
        Check.is("length(0)", x.length(0), 0);
        Subject y = Check.holding("a");
        y.undo();
        Check.is("length(0) before the first group", y.length(0), 0);
        y.redo();
        Check.is("length(0) behind it", y.length(0), 1);
    }

    /** "it can be redone then" */
    private static void whatIsUndoneCanBeRedone() {
        Subject x = marked();
        for (int i = 1; i <= 4; i++) {
            x.undo();
            Check.is("count(2)", x.count(2), 4 - i);
            Check.is("count(3)", x.count(3), i);
        }
        Check.state("undo() of none", x, x::undo);
        for (int i = 1; i <= 4; i++) {
            x.redo();
            Check.is("count(2)", x.count(2), i);
            Check.is("count(3)", x.count(3), 4 - i);
        }
        Check.state("redo() of none", x, x::redo);
    }

    /** "REDO makes it what it was behind that" */
    private static void redoMakesTheTextWhatItWasBehind() {
        for (int i = 0; i < CHANGING.length; i++) {
            Subject x = marked();
            CHANGING[i].make(x);
            String behind = Check.text(x);
            x.undo();
            Check.is("redo() of edit " + i, x.redo(), 1);
            Check.is("the text behind redo() of edit " + i, Check.text(x), behind);
        }
    }

    /** "An edit that changes the text .. makes that nothing can be redone." */
    private static void anEditThatChangesEndsRedoing() {
        for (int i = 0; i < CHANGING.length; i++) {
            Subject x = markedWithOneToRedo();
            CHANGING[i].make(x);
            Check.is("count(3) behind edit " + i, x.count(3), 0);
            Check.is("count(5) behind edit " + i, x.count(5), 0);
            Check.state("redo() behind edit " + i, x, x::redo);
            x.undo();
            Check.is("count(3), the edit itself", x.count(3), 1);
        }
    }

    /** "(in an open group, too)" */
    private static void inAnOpenGroupToo() {
        for (int i = 0; i < CHANGING.length; i++) {
            Subject x = markedWithOneToRedo();
            x.open();
            Check.is("count(3) behind open()", x.count(3), 1);
            CHANGING[i].make(x);
            Check.is("count(3) behind edit " + i, x.count(3), 0);
            Check.is("count(5) behind edit " + i, x.count(5), 0);
            x.close();
            Check.state("redo() behind a group of edit " + i, x, x::redo);
        }
    }

    /** The same sentence: "that changes the text". */
    private static void anEditThatLeavesTheTextDoesNot() {
        for (int i = 0; i < LEAVING.length; i++) {
            Subject x = markedWithOneToRedo();
            LEAVING[i].make(x);
            Check.is("count(3) behind the leaving edit " + i, x.count(3), 1);
            x.open();
            LEAVING[i].make(x);
            Check.is("count(3) behind it in a group", x.count(3), 1);
            x.close();
            Check.is("redo() behind the leaving edit " + i, x.redo(), 1);
            Check.is("the last character", Check.letter(x, 4), "e:4 2/0/0/-1");
        }
    }
}
