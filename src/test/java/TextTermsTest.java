/** Terms: the text, its characters and their marks, up to their limits. A test for each sentence. */
public final class TextTermsTest {
    public static void main(String[] args) {
        atMostSixHundredCharacters();
        erasedCharactersCountWhileTheyAreTracked();
        placesFromZeroOn();
        codesFromOneTo255();
        formatsFromZeroTo255();
        noFormatBeyond();
        authorsAreBits();
        oldFormatIfSomebodyFormatted();
        plainIfNobodyDidAny();
        ownIfJustThisOneInserted();
        authorZeroAtFirstAndUntracked();
        firstThreeEditsAreTheAuthors();
        all512Calls();
        Check.end();
    }

    /** "The TEXT is a row of at most 600 CHARACTERS" */
    private static void atMostSixHundredCharacters() {
        Subject x = Check.holding(592);
        Check.is("insert up to 600", x.insert(592, Check.codes("abcdefgh"), 0), 600);
        Check.is("length(0)", x.length(0), 600);
        Check.state("insert into a full text", x, () -> x.insert(0, Check.codes("y"), 0));
        Check.is("erase of one", x.erase(0, 1), 599);
        Check.is("insert into the room for one", x.insert(599, Check.codes("y"), 0), 600);
        Check.is("erase of all", x.erase(0, 600), 0);
        Check.is("insert into an empty text", x.insert(0, Check.codes("z"), 0), 1);
    }

    /** The same sentence: what is erased, but tracked, is still a character of the text. */
    private static void erasedCharactersCountWhileTheyAreTracked() {
        Subject x = Check.holding(600);
        Check.tracked(x, 1);
        Check.is("erase of all, tracked", x.erase(0, 600), 600);
        Check.is("length(1)", x.length(1), 0);
        Check.state("insert into a full text", x, () -> x.insert(0, Check.codes("y"), 0));
        Check.is("accept of all", x.accept(0, 600, 2), 600);
        Check.is("insert", x.insert(0, Check.codes("y"), 0), 1);
    }

    /** "places 0, 1, .." */
    private static void placesFromZeroOn() {
        Subject x = Check.holding(592);
        x.insert(592, Check.codes("abcdefgh"), 0);
        Check.is("seen(0, 0, 2)", x.seen(0, 0, 2), 0);
        Check.is("seen(0, 599, 2)", x.seen(0, 599, 2), 599);
        Check.is("the code at 599", x.seen(0, 599, 0), 'h');
        Check.is("mark(599, 0)", x.mark(599, 0), 0);
        Check.index("mark(600, 0)", x, () -> x.mark(600, 0));
        Check.index("mark(-1, 0)", x, () -> x.mark(-1, 0));
        Check.index("seen(0, 600, 0)", x, () -> x.seen(0, 600, 0));
        Check.is("next(600, 255)", x.next(600, 255), -1);
        Check.index("next(601, 255)", x, () -> x.next(601, 255));
        Check.index("insert(601, ..)", x, () -> x.insert(601, 1, 0));
    }

    /** "A character has a CODE (1 .. 255)" */
    private static void codesFromOneTo255() {
        Subject x = new Subject();
        for (int first = 1; first <= 255; first += 8) {
            long codes = 0;
            for (int i = 0; i < 8 && first + i <= 255; i++) {
                codes |= (long) (first + i) << (8 * i);
            }
            x.insert(first - 1, codes, 0);
        }
        Check.is("length(0)", x.length(0), 255);
        for (int code = 1; code <= 255; code++) {
            Check.is("the code " + code, x.seen(0, code - 1, 0), code);
        }
    }

    /** "a FORMAT (0 .. 255)" */
    private static void formatsFromZeroTo255() {
        Subject x = new Subject();
        Subject y = Check.holding("a");
        for (int format = 0; format <= 255; format++) {
            x.insert(format, Check.codes("a"), format);
            y.format(0, 1, format);
            Check.is("format() with " + format, y.seen(0, 0, 1), format);
        }
        for (int format = 0; format <= 255; format++) {
            Check.is("insert() with " + format, x.seen(0, format, 1), format);
        }
    }

    /** The same sentence, and "IllegalArgumentException: there is no such .. format" */
    private static void noFormatBeyond() {
        Subject x = Check.holding("ab");
        int[] wrong = {-1, -256, 256, 257, 511, 512, Integer.MIN_VALUE, Integer.MAX_VALUE};
        for (int format : wrong) {
            Check.argument("insert(1, 65, " + format + ")", x, () -> x.insert(1, 65, format));
            Check.argument("format(0, 2, " + format + ")", x, () -> x.format(0, 2, format));
            Check.argument("format(0, 0, " + format + ")", x, () -> x.format(0, 0, format));
        }
    }

    /** "each as bits, author a being 1 << a; authors are 0 .. 7" */
    private static void authorsAreBits() {
        Subject x = Check.holding("ab");
        for (int author = 0; author <= 7; author++) {
            Check.tracked(x, author);
            x.insert(2 + author, Check.codes("c"), 0);
            x.erase(0, 1);
            x.format(1, 1, 10 + author);
            Check.is("inserted by " + author, x.mark(2 + author, 0), 1 << author);
            Check.is("erased by all up to " + author, x.mark(0, 1), (2 << author) - 1);
            Check.is("formatted by all up to " + author, x.mark(1, 2), (2 << author) - 1);
        }
        Check.is("the text", Check.text(x).substring(0, 32), "a:0 0/255/0/-1, b:17 0/0/255/0, ");
        Check.argument("author(8)", x, () -> x.author(8));
        Check.argument("author(-1)", x, () -> x.author(-1));
    }

    /** "and, if somebody formatted it, its OLD format" */
    private static void oldFormatIfSomebodyFormatted() {
        int[] olds = {0, 1, 254, 255};
        for (int old : olds) {
            Subject x = new Subject();
            x.insert(0, Check.codes("a"), old);
            Check.is("mark(0, 3) before", x.mark(0, 3), -1);
            Check.tracked(x, 1);
            x.erase(0, 1);
            Check.is("mark(0, 3) of one that is erased alone", x.mark(0, 3), -1);
            x.format(0, 1, 7);
            Check.is("mark(0, 3)", x.mark(0, 3), old);
            x.accept(0, 1, 1);
            Check.is("mark(0, 3) behind another's accept()", x.mark(0, 3), old);
            x.track(false);
            x.format(0, 1, 7);
            Check.is("mark(0, 3) when nobody did any more", x.mark(0, 3), -1);
        }
    }

    /** "It is PLAIN if nobody did any of these." */
    private static void plainIfNobodyDidAny() {
        Subject x = Check.holding("abc");
        Check.is("count(0) of plain ones", x.count(0), 0);
        Check.is("count(1) of plain ones", x.count(1), 0);
        Check.tracked(x, 0);
        x.erase(0, 1);
        Check.is("count(0) of an erased one", x.count(0), 1);
        x.undo();
        x.format(1, 1, 9);
        Check.is("count(0) of a formatted one", x.count(0), 1);
        x.undo();
        x.insert(2, Check.codes("d"), 0);
        Check.is("count(0) of an inserted one", x.count(0), 1);
        x.undo();
        Check.is("count(0) of plain ones again", x.count(0), 0);
        x.track(false);
        x.format(0, 3, 255);
        Check.is("count(0) of plain ones with a format", x.count(0), 0);
    }

    /** "It is OWN to an author if just this one inserted it." */
    private static void ownIfJustThisOneInserted() {
        Subject x = Check.holding("a");
        Check.tracked(x, 1);
        x.insert(1, Check.codes("bc"), 0);
        Check.is("one that nobody inserted is not own", x.erase(0, 1), 3);
        x.author(2);
        Check.is("one that another inserted is not own", x.erase(1, 2), 3);
        x.author(1);
        Check.is("own, though another erased it", x.erase(1, 1), 2);
        x.accept(1, 1, 2);
        Check.is("not own any more when it is accepted", x.erase(1, 1), 2);
        Check.is("the text", Check.text(x), "a:0 0/2/0/-1, c:0 0/6/0/-1");
    }

    /** "those of the author who is at work, at first 0, and TRACKED if tracking is on (at first it is off)" */
    private static void authorZeroAtFirstAndUntracked() {
        Subject x = new Subject();
        x.insert(0, Check.codes("ab"), 0);
        Check.is("insert at first", Check.text(x), "a:0 0/0/0/-1, b:0 0/0/0/-1");
        Check.is("format at first", x.format(0, 1, 3), 1);
        Check.is("the mark", Check.letter(x, 0), "a:3 0/0/0/-1");
        Check.is("erase at first", x.erase(0, 1), 1);
        x.track(true);
        x.erase(0, 1);
        Check.is("author 0's mark", Check.letter(x, 0), "b:0 0/1/0/-1");
    }

    /** "the first three are those of the author who is at work": accept() and reject() are those of a set. */
    private static void firstThreeEditsAreTheAuthors() {
        Subject x = Check.holding("ab");
        Check.tracked(x, 1);
        x.erase(0, 2);
        x.author(2);
        Check.is("reject(0, 1, 4), the author at work", x.reject(0, 1, 4), 0);
        Check.is("reject(0, 1, 2), not at work", x.reject(0, 1, 2), 1);
        Check.is("accept(1, 1, 2), tracked", x.accept(1, 1, 2), 1);
        Check.is("the text", Check.text(x), "a:0 0/0/0/-1");
    }

    /** "An object is used for at most 512 calls after it has been made" */
    private static void all512Calls() {
        Subject x = new Subject();
        for (int call = 1; call <= 511; call++) {
            int want = Math.min(call, 600);
            Check.is("call " + call, x.insert(call - 1, Check.codes("a"), call % 256), want);
        }
        Check.is("call 512", x.seen(0, 510, 1), 511 % 256);
    }
}
