/** Promise 1: a new object has no characters, author 0 at work, tracking off, no group. */
public final class NewObjectTest {
    public static void main(String[] args) {
        noCharacters();
        authorAndTracking();
        noGroup();
        objectsAreApart();
        Check.end();
    }

    private static void noCharacters() {
        Subject x = new Subject();
        for (int view = 0; view < 3; view++) {
            Check.is("length(" + view + ")", x.length(view), 0);
        }
        Check.is("count(0)", x.count(0), 0);
        Check.is("count(1)", x.count(1), 0);
        Check.is("next(0, 255)", x.next(0, 255), -1);
        Check.index("mark(0, 0)", x, () -> x.mark(0, 0));
        Check.index("seen(0, 0, 0)", x, () -> x.seen(0, 0, 0));
    }

    private static void authorAndTracking() {
        Subject x = new Subject();
        Check.is("track(false)", x.track(false), false);
        Check.is("author(5)", x.author(5), 0);
        Subject y = new Subject();
        y.insert(0, Check.codes("a"), 1);
        Check.is("an untracked character", Check.letter(y, 0), "a:1 0/0/0/-1");
        y.track(true);
        y.insert(0, Check.codes("b"), 1);
        Check.is("author 0's character", Check.letter(y, 0), "b:1 1/0/0/-1");
    }

    private static void noGroup() {
        Subject x = new Subject();
        for (int what = 2; what <= 6; what++) {
            Check.is("count(" + what + ")", x.count(what), 0);
        }
        Check.state("undo()", x, x::undo);
        Check.state("redo()", x, x::redo);
        Check.state("close()", x, x::close);
        x.open();
        Check.is("close() of the first group, without edits", x.close(), 0);
        Check.is("count(2)", x.count(2), 0);
    }

    private static void objectsAreApart() {
        Subject x = Check.holding("abc");
        Subject y = new Subject();
        x.author(3);
        x.track(true);
        x.open();
        Check.is("another object's length", y.length(0), 0);
        Check.is("another object's author", y.author(1), 0);
        Check.is("another object's tracking", y.track(true), false);
        Check.is("another object's group", y.count(6), 0);
    }
}
