/** Promise 16: next() finds the next character that one of a set of authors marked. */
public final class NextTest {
    public static void main(String[] args) {
        finds();
        authorZero();
        notBehindTheEnd();
        wrongArguments();
        fromTheLengthOn();
        firstAndLastPlace();
        setsFrom1To255();
        Check.end();
    }

    private static void finds() {
        Subject x = Check.holding("abcdef");
        Check.tracked(x, 1);
        x.insert(6, Check.codes("g"), 0);
        x.author(2);
        x.erase(3, 1);
        x.author(3);
        x.format(1, 1, 9);
        Check.is("next(0, 255)", x.next(0, 255), 1);
        Check.is("next(1, 255), the place itself", x.next(1, 255), 1);
        Check.is("next(2, 255)", x.next(2, 255), 3);
        Check.is("next(4, 255)", x.next(4, 255), 6);
        Check.is("next(0, 2), inserted", x.next(0, 2), 6);
        Check.is("next(0, 4), erased", x.next(0, 4), 3);
        Check.is("next(0, 8), formatted", x.next(0, 8), 1);
        Check.is("next(0, 6)", x.next(0, 6), 3);
        Check.is("next(2, 8)", x.next(2, 8), -1);
        Check.is("next(0, 255 - 14)", x.next(0, 255 - 14), -1);
        Check.is("next(7, 255), the length", x.next(7, 255), -1);
    }

    private static void authorZero() {
        Subject x = Check.holding("abc");
        Check.tracked(x, 0);
        x.erase(1, 1);
        Check.is("next(0, 1)", x.next(0, 1), 1);
        Check.is("next(0, 254)", x.next(0, 254), -1);
    }

    private static void notBehindTheEnd() {
        Subject x = Check.holding("abcd");
        Check.tracked(x, 1);
        x.erase(0, 4);
        x.track(false);
        x.erase(0, 4);
        Check.is("next(0, 255) of none", x.next(0, 255), -1);
        x.insert(0, Check.codes("e"), 0);
        Check.is("next(0, 255) of one plain one", x.next(0, 255), -1);
        x.insert(1, Check.codes("f"), 0);
        Check.is("next(0, 255) of two plain ones", x.next(0, 255), -1);
    }

    private static void wrongArguments() {
        Subject x = Check.holding("abc");
        int[] places = {-1, 4, Integer.MIN_VALUE, Integer.MAX_VALUE};
        for (int at : places) {
            Check.index("next(" + at + ", 1)", x, () -> x.next(at, 1));
            Check.index("next(" + at + ", 0)", x, () -> x.next(at, 0));
        }
        int[] sets = {0, -1, 256, Integer.MIN_VALUE, Integer.MAX_VALUE};
        for (int authors : sets) {
            Check.argument("next(0, " + authors + ")", x, () -> x.next(0, authors));
            Check.argument("next(3, " + authors + ")", x, () -> x.next(3, authors));
        }
    }

    /** "from at (which may be the length) on": of an empty text, of a full one. */
    private static void fromTheLengthOn() {
        Subject x = new Subject();
        Check.is("next(0, 255) of a new object", x.next(0, 255), -1);
        Check.index("next(1, 255) of a new object", x, () -> x.next(1, 255));
        Check.index("next(-1, 255) of a new object", x, () -> x.next(-1, 255));
        Subject y = Check.holding(600);
        Check.tracked(y, 4);
        y.erase(0, 600);
        Check.is("next(600, 16)", y.next(600, 16), -1);
        Check.is("next(599, 16)", y.next(599, 16), 599);
        Check.index("next(601, 16)", y, () -> y.next(601, 16));
    }

    /** "The first place": the first of all, and the last of all. */
    private static void firstAndLastPlace() {
        Subject x = Check.holding(600);
        Check.is("next(0, 255)", x.next(0, 255), -1);
        Check.tracked(x, 0);
        x.erase(599, 1);
        Check.is("next(0, 1)", x.next(0, 1), 599);
        Check.is("next(599, 1)", x.next(599, 1), 599);
        x.format(0, 1, 1);
        Check.is("next(0, 1)", x.next(0, 1), 0);
        Check.is("next(1, 1)", x.next(1, 1), 599);
    }

    /** "one of a set of authors inserted, erased or formatted", with every set that there is. */
    private static void setsFrom1To255() {
        Subject x = Check.holding("abcdefgh");
        for (int author = 0; author < 8; author++) {
            Check.tracked(x, author);
            if (author % 2 == 0) {
                x.erase(author, 1);
            } else {
                x.format(author, 1, 9);
            }
        }
        for (int set = 1; set <= 255; set++) {
            Check.is("next(0, " + set + ")", x.next(0, set), Integer.numberOfTrailingZeros(set));
        }
    }
}
