/** Promise 4: insert() puts up to eight characters before a place. */
public final class InsertTest {
    public static void main(String[] args) {
        beforeAPlaceOrAtTheEnd();
        bytesUpToTheFirstZero();
        formatsAndMarks();
        wrongPlaces();
        wrongArguments();
        notMoreThanSixHundred();
        orderOfExceptions();
        Check.end();
    }

    private static void beforeAPlaceOrAtTheEnd() {
        ChangeTracker x = new ChangeTracker();
        Check.is("insert into nothing", x.insert(0, Check.codes("bd"), 0), 2);
        Check.is("insert at the beginning", x.insert(0, Check.codes("a"), 0), 3);
        Check.is("insert inside", x.insert(2, Check.codes("c"), 0), 4);
        Check.is("insert at the end", x.insert(4, Check.codes("ef"), 0), 6);
        Check.is("the text", Check.view(x, 0), "abcdef");
    }

    private static void bytesUpToTheFirstZero() {
        ChangeTracker x = new ChangeTracker();
        Check.is("eight bytes", x.insert(0, Check.codes("abcdefgh"), 0), 8);
        Check.is("the text", Check.view(x, 0), "abcdefgh");
        x = new ChangeTracker();
        Check.is("bytes behind a zero", x.insert(0, 0x4400434241L, 0), 3);
        Check.is("the text", Check.view(x, 0), "ABC");
        x = new ChangeTracker();
        Check.is("all bytes 255", x.insert(0, -1L, 0), 8);
        for (int i = 0; i < 8; i++) {
            Check.is("code " + i, x.seen(0, i, 0), 255);
        }
        x = new ChangeTracker();
        Check.is("the highest byte 128", x.insert(0, 0x8001010101010101L, 0), 8);
        Check.is("the last code", x.seen(0, 7, 0), 128);
        x = new ChangeTracker();
        Check.is("the highest byte after a zero", x.insert(0, 0xFF00000000000001L, 0), 1);
        Check.is("the only code", x.seen(0, 0, 0), 1);
    }

    private static void formatsAndMarks() {
        ChangeTracker x = new ChangeTracker();
        x.author(3);
        x.insert(0, Check.codes("a"), 255);
        x.track(true);
        x.insert(1, Check.codes("b"), 0);
        Check.is("plain and inserted", Check.text(x), "a:255 0/0/0/-1, b:0 8/0/0/-1");
    }

    private static void wrongPlaces() {
        ChangeTracker x = Check.holding("abc");
        int[] wrong = {-1, 4, 600, Integer.MIN_VALUE, Integer.MAX_VALUE};
        for (int at : wrong) {
            Check.index("insert(" + at + ", ..)", x, () -> x.insert(at, 65, 0));
        }
    }

    private static void wrongArguments() {
        ChangeTracker x = Check.holding("abc");
        int[] wrong = {-1, 256, Integer.MIN_VALUE, Integer.MAX_VALUE};
        for (int format : wrong) {
            Check.argument("insert(0, 65, " + format + ")", x, () -> x.insert(0, 65, format));
        }
        Check.argument("insert(0, 0, 0)", x, () -> x.insert(0, 0, 0));
        Check.argument("insert(0, 65 << 8, 0)", x, () -> x.insert(0, 65 << 8, 0));
        Check.argument("insert(0, Long.MIN_VALUE, 0)", x, () -> x.insert(0, Long.MIN_VALUE, 0));
    }

    private static void notMoreThanSixHundred() {
        ChangeTracker x = Check.holding(597);
        Check.state("insert of four", x, () -> x.insert(0, Check.codes("abcd"), 0));
        Check.state("insert of eight", x, () -> x.insert(597, Check.codes("abcdefgh"), 0));
        Check.is("insert of three", x.insert(597, Check.codes("abc"), 0), 600);
        Check.state("insert of one", x, () -> x.insert(600, Check.codes("a"), 0));
        Check.is("the last character", x.seen(0, 599, 0), 'c');
    }

    private static void orderOfExceptions() {
        ChangeTracker x = Check.holding(600);
        Check.index("no place, no format, no code", x, () -> x.insert(601, 0, 256));
        Check.argument("no format, too long", x, () -> x.insert(0, 65, 256));
        Check.argument("no code, too long", x, () -> x.insert(0, 0, 0));
    }
}
