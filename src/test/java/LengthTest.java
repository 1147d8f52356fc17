/** Promise 13: length() of the three views. */
public final class LengthTest {
    public static void main(String[] args) {
        views();
        noSuchView();
        emptyAndFull();
        Check.end();
    }

    private static void views() {
        Subject x = Check.holding("abcd");
        Check.tracked(x, 1);
        x.insert(4, Check.codes("efg"), 0);
        x.format(0, 2, 9);
        lengths(x, 7, 7, 4);
        x.erase(0, 1);
        lengths(x, 7, 6, 4);
        x.author(2);
        x.erase(0, 6);
        lengths(x, 7, 1, 4);
        x.reject(0, 7, 6);
        lengths(x, 4, 4, 4);
    }

    private static void lengths(Subject x, int all, int accepted, int rejected) {
        Check.is("length(0)", x.length(0), all);
        Check.is("length(1)", x.length(1), accepted);
        Check.is("length(2)", x.length(2), rejected);
    }

    private static void noSuchView() {
        Subject x = Check.holding("abcd");
        int[] wrong = {-1, 3, 4, Integer.MIN_VALUE, Integer.MAX_VALUE};
        for (int view : wrong) {
            Check.is("length(" + view + ")", x.length(view), -1);
        }
    }

    /** "How many characters a view has": from none to 600. */
    private static void emptyAndFull() {
        Subject x = new Subject();
        lengths(x, 0, 0, 0);
        Check.tracked(x, 5);
        for (int at = 0; at < 600; at += 8) {
            x.insert(at, Check.codes("abcdefgh"), 0);
        }
        lengths(x, 600, 600, 0);
        x.author(6);
        x.erase(0, 600);
        lengths(x, 600, 0, 0);
        x.accept(0, 600, 32);
        lengths(x, 600, 0, 600);
        x.accept(0, 600, 64);
        lengths(x, 0, 0, 0);
        Check.is("length(3) of an empty text", x.length(3), -1);
        Check.is("length(-1) of an empty text", x.length(-1), -1);
    }
}
