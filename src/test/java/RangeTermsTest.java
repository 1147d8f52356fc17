/** Terms: what a range is, and that erase(), format(), accept() and reject() refuse what is none. */
public final class RangeTermsTest {
    /** A call with a range. */
    private interface Ranged {
        int call(Subject x, int at, int n);
    }

    private static final String[] NAMES = {"erase", "format", "accept", "reject"};
    private static final Ranged[] CALLS = {
        (x, at, n) -> x.erase(at, n),
        (x, at, n) -> x.format(at, n, 9),
        (x, at, n) -> x.accept(at, n, 255),
        (x, at, n) -> x.reject(at, n, 255),
    };

    public static void main(String[] args) {
        for (int i = 0; i < CALLS.length; i++) {
            nCharactersFromPlaceAtOn(i);
            nIsZeroOrMore(i);
            atIsZeroOrMore(i);
            atPlusNIsNotAboveTheLength(i);
            atPlusNDoesNotWrapAround(i);
            rangesOfAnEmptyText(i);
            rangesOfAFullText(i);
        }
        Check.end();
    }

    /** Five characters that each of the calls changes. */
    private static Subject marked() {
        Subject x = new Subject();
        Check.tracked(x, 1);
        x.insert(0, Check.codes("abcde"), 0);
        x.track(false);
        return x;
    }

    private static String after(int call, char letter) {
        String[] looks = {"", letter + ":9 2/0/0/-1", letter + ":0 0/0/0/-1", ""};
        return looks[call];
    }

    private static String wanted(int call, int at, int n) {
        StringBuilder text = new StringBuilder();
        for (int place = 0; place < 5; place++) {
            char letter = (char) ('a' + place);
            boolean isIn = place >= at && place - at < n;
            String look = isIn ? after(call, letter) : letter + ":0 2/0/0/-1";
            text.append(text.length() == 0 || look.isEmpty() ? "" : ", ").append(look);
        }
        return text.toString();
    }

    private static String name(int call, int at, int n) {
        return NAMES[call] + " of " + at + ", " + n;
    }

    /** "A RANGE at, n are the n characters from place at on": every range of five characters. */
    private static void nCharactersFromPlaceAtOn(int call) {
        for (int at = 0; at <= 5; at++) {
            for (int n = 0; n <= 5 - at; n++) {
                Subject x = marked();
                int answer = CALLS[call].call(x, at, n);
                Check.is(name(call, at, n), answer, call == 0 ? 5 - n : n);
                Check.is("the text behind " + name(call, at, n), Check.text(x), wanted(call, at, n));
                Check.is("groups behind " + name(call, at, n), x.count(2), n == 0 ? 1 : 2);
            }
        }
    }

    /** "there is one if n is 0 or more" */
    private static void nIsZeroOrMore(int call) {
        Subject x = marked();
        int[] wrong = {-1, -2, -5, Integer.MIN_VALUE, Integer.MIN_VALUE + 1};
        for (int n : wrong) {
            for (int at = 0; at <= 5; at++) {
                refuses(call, x, at, n);
            }
        }
    }

    /** "at 0 or more" */
    private static void atIsZeroOrMore(int call) {
        Subject x = marked();
        int[] wrong = {-1, -2, -5, Integer.MIN_VALUE, Integer.MIN_VALUE + 1};
        for (int at : wrong) {
            refuses(call, x, at, 0);
            refuses(call, x, at, 1);
            refuses(call, x, at, 5);
            refuses(call, x, at, -1);
        }
        refuses(call, x, -1, 6);
        refuses(call, x, Integer.MIN_VALUE, Integer.MAX_VALUE);
        refuses(call, x, Integer.MIN_VALUE, Integer.MIN_VALUE);
        refuses(call, x, -Integer.MAX_VALUE, Integer.MAX_VALUE);
    }

    /** "at + n not above the length" */
    private static void atPlusNIsNotAboveTheLength(int call) {
        Subject x = marked();
        for (int at = 0; at <= 6; at++) {
            refuses(call, x, at, 6 - at);
            refuses(call, x, at, 600);
        }
        refuses(call, x, 7, 0);
        refuses(call, x, 600, 0);
        refuses(call, x, 6, -1);
    }

    /** The same: the sum is above the length even where an int would wrap around. */
    private static void atPlusNDoesNotWrapAround(int call) {
        Subject x = marked();
        refuses(call, x, Integer.MAX_VALUE, 0);
        refuses(call, x, 0, Integer.MAX_VALUE);
        refuses(call, x, 1, Integer.MAX_VALUE);
        refuses(call, x, 5, Integer.MAX_VALUE);
        refuses(call, x, Integer.MAX_VALUE, 1);
        refuses(call, x, Integer.MAX_VALUE, 5);
        refuses(call, x, Integer.MAX_VALUE, Integer.MAX_VALUE);
        refuses(call, x, Integer.MAX_VALUE, Integer.MIN_VALUE);
    }

    /** A text of none has one range, 0, 0. */
    private static void rangesOfAnEmptyText(int call) {
        Subject x = new Subject();
        Check.is(name(call, 0, 0) + " of an empty text", CALLS[call].call(x, 0, 0), 0);
        Check.is("groups behind it", x.count(2), 0);
        refuses(call, x, 0, 1);
        refuses(call, x, 1, 0);
        refuses(call, x, 1, -1);
        refuses(call, x, -1, 1);
    }

    /** A full text has ranges up to 0, 600 and 600, 0. */
    private static void rangesOfAFullText(int call) {
        Subject x = new Subject();
        Check.tracked(x, 1);
        for (int at = 0; at < 600; at += 8) {
            x.insert(at, Check.codes("abcdefgh"), 0);
        }
        x.track(false);
        refuses(call, x, 0, 601);
        refuses(call, x, 600, 1);
        refuses(call, x, 601, 0);
        refuses(call, x, 599, 2);
        Check.is(name(call, 600, 0), CALLS[call].call(x, 600, 0), call == 0 ? 600 : 0);
        Check.is(name(call, 599, 1), CALLS[call].call(x, 599, 1), call == 0 ? 599 : 1);
        x.undo();
        Check.is(name(call, 0, 600), CALLS[call].call(x, 0, 600), call == 0 ? 0 : 600);
    }

    private static void refuses(int call, Subject x, int at, int n) {
        Check.index(name(call, at, n), x, () -> CALLS[call].call(x, at, n));
    }
}
