/** Promise 3: track() turns tracking on or off, and is no edit. */
public final class TrackTest {
    public static void main(String[] args) {
        answersWhetherItWasOn();
        editsAreTrackedWhileItIsOn();
        isNoEdit();
        Check.end();
    }

    private static void answersWhetherItWasOn() {
        Subject x = new Subject();
        Check.is("track(true) first", x.track(true), false);
        Check.is("track(true) again", x.track(true), true);
        Check.is("track(false)", x.track(false), true);
        Check.is("track(false) again", x.track(false), false);
    }

    private static void editsAreTrackedWhileItIsOn() {
        Subject x = new Subject();
        x.insert(0, Check.codes("abc"), 0);
        x.author(1);
        x.track(true);
        x.erase(0, 1);
        x.track(false);
        x.erase(1, 1);
        x.insert(2, Check.codes("d"), 0);
        Check.is("the text", Check.text(x), "a:0 0/2/0/-1, c:0 0/0/0/-1, d:0 0/0/0/-1");
    }

    private static void isNoEdit() {
        Subject x = Check.holding("ab");
        x.track(true);
        x.undo();
        Check.is("track() behind undo()", x.track(false), true);
        Check.is("count(3) behind track()", x.count(3), 1);
        x.redo();
        Check.is("track() behind redo()", x.track(true), false);
        x.open();
        x.track(false);
        Check.is("close() of a group with track() alone", x.close(), 0);
    }
}
