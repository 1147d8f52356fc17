/** Promise 4: insert() puts up to eight characters before a place. */
public final class InsertTest {
    public static void main(String[] args) {
        beforeAPlaceOrAtTheEnd();
        bytesUpToTheFirstZero();
        formatsAndMarks();
        wrongPlaces();
        wrongArguments();
        notMoreThanSixHundred();
        orderOfExceptions();
        upToEachZeroByte();
        upToEachFullText();
        zeroByteWhereThereIsLittleRoom();
        lowestByteZero();
        fullOfMarksAndRoomByUndo();
        Check.end();
    }

    private static void beforeAPlaceOrAtTheEnd() {
        Subject x = new Subject();
        Check.is("insert into nothing", x.insert(0, Check.codes("bd"), 0), 2);
        Check.is("insert at the beginning", x.insert(0, Check.codes("a"), 0), 3);
        Check.is("insert inside", x.insert(2, Check.codes("c"), 0), 4);
        Check.is("insert at the end", x.insert(4, Check.codes("ef"), 0), 6);
        Check.is("the text", Check.view(x, 0), "abcdef");
    }

    private static void bytesUpToTheFirstZero() {
        Subject x = new Subject();
        Check.is("eight bytes", x.insert(0, Check.codes("abcdefgh"), 0), 8);
        Check.is("the text", Check.view(x, 0), "abcdefgh");
        x = new Subject();
        Check.is("bytes behind a zero", x.insert(0, 0x4400434241L, 0), 3);
        Check.is("the text", Check.view(x, 0), "ABC");
        x = new Subject();
        Check.is("all bytes 255", x.insert(0, -1L, 0), 8);
        for (int i = 0; i < 8; i++) {
            Check.is("code " + i, x.seen(0, i, 0), 255);
        }
        x = new Subject();
        Check.is("the highest byte 128", x.insert(0, 0x8001010101010101L, 0), 8);
        Check.is("the last code", x.seen(0, 7, 0), 128);
        x = new Subject();
        Check.is("the highest byte after a zero", x.insert(0, 0xFF00000000000001L, 0), 1);
        Check.is("the only code", x.seen(0, 0, 0), 1);
    }

    private static void formatsAndMarks() {
        Subject x = new Subject();
        x.author(3);
        x.insert(0, Check.codes("a"), 255);
        x.track(true);
        x.insert(1, Check.codes("b"), 0);
        Check.is("plain and inserted", Check.text(x), "a:255 0/0/0/-1, b:0 8/0/0/-1");
    }

    private static void wrongPlaces() {
        Subject x = Check.holding("abc");
        int[] wrong = {-1, 4, 600, Integer.MIN_VALUE, Integer.MAX_VALUE};
        for (int at : wrong) {
            Check.index("insert(" + at + ", ..)", x, () -> x.insert(at, 65, 0));
        }
    }

    private static void wrongArguments() {
        Subject x = Check.holding("abc");
        int[] wrong = {-1, 256, Integer.MIN_VALUE, Integer.MAX_VALUE};
        for (int format : wrong) {
            Check.argument("insert(0, 65, " + format + ")", x, () -> x.insert(0, 65, format));
        }
        Check.argument("insert(0, 0, 0)", x, () -> x.insert(0, 0, 0));
        Check.argument("insert(0, 65 << 8, 0)", x, () -> x.insert(0, 65 << 8, 0));
        Check.argument("insert(0, Long.MIN_VALUE, 0)", x, () -> x.insert(0, Long.MIN_VALUE, 0));
    }

    private static void notMoreThanSixHundred() {
        Subject x = Check.holding(597);
        Check.state("insert of four", x, () -> x.insert(0, Check.codes("abcd"), 0));
        Check.state("insert of eight", x, () -> x.insert(597, Check.codes("abcdefgh"), 0));
        Check.is("insert of three", x.insert(597, Check.codes("abc"), 0), 600);
        Check.state("insert of one", x, () -> x.insert(600, Check.codes("a"), 0));
        Check.is("the last character", x.seen(0, 599, 0), 'c');
    }

    private static void orderOfExceptions() {
        Subject x = Check.holding(600);
        Check.index("no place, no format, no code", x, () -> x.insert(601, 0, 256));
        Check.argument("no format, too long", x, () -> x.insert(0, 65, 256));
        Check.argument("no code, too long", x, () -> x.insert(0, 0, 0));
    }

    /** "up to eight characters .. the lowest first, up to the first zero byte": whatever lies behind it. */
    private static void upToEachZeroByte() {
        String letters = "abcdefgh";
        for (int n = 1; n <= 8; n++) {
            long behind = n >= 7 ? 0 : -1L << (8 * (n + 1));
            Subject x = new Subject();
            Check.is("insert of " + n, x.insert(0, Check.codes(letters.substring(0, n)) | behind, 0), n);
            Check.is("the text", Check.view(x, 0), letters.substring(0, n));
        }
    }

    /** "IllegalStateException: there would be more than 600": for each room that is left. */
    private static void upToEachFullText() {
        for (int room = 0; room <= 8; room++) {
            Subject x = Check.holding(600 - room);
            if (room < 8) {
                long tooMany = Check.codes("abcdefgh".substring(0, room + 1));
                Check.state("insert of one more than " + room, x, () -> x.insert(0, tooMany, 0));
            }
            if (room > 0) {
                long justEnough = Check.codes("abcdefgh".substring(0, room));
                Check.is("insert of just " + room, x.insert(300, justEnough, 0), 600);
                Check.is("the first of them", x.seen(0, 300, 0), 'a');
                Check.is("what stood there", x.seen(0, 300 + room, 0), 'x');
            }
        }
    }

    /** The same: bytes behind a zero byte are no characters, and need no room. */
    private static void zeroByteWhereThereIsLittleRoom() {
        Subject x = Check.holding(599);
        Check.is("insert of one and bytes behind a zero", x.insert(599, 0xFFFFFFFFFFFF0041L, 0), 600);
        Check.state("the same in a full text", x, () -> x.insert(599, 0xFFFFFFFFFFFF0041L, 0));
    }

    /** "IllegalArgumentException: also if the lowest byte is 0" */
    private static void lowestByteZero() {
        Subject x = Check.holding("abc");
        for (int i = 1; i < 8; i++) {
            long codes = 65L << (8 * i);
            Check.argument("a code in byte " + i + " alone", x, () -> x.insert(1, codes, 0));
        }
        Check.argument("all bytes but the lowest", x, () -> x.insert(3, -256L, 255));
        Check.is("the lowest byte 1", x.insert(3, 1L, 255), 4);
        Check.is("the lowest byte 255", x.insert(4, 255L, 255), 5);
    }

    /** The text is full of what is in it now: undo() makes room, redo() takes it. */
    private static void fullOfMarksAndRoomByUndo() {
        Subject x = Check.holding(599);
        Check.tracked(x, 1);
        x.insert(0, Check.codes("a"), 0);
        Check.state("insert into a full text", x, () -> x.insert(0, Check.codes("b"), 0));
        x.undo();
        Check.state("insert of two into room for one", x, () -> x.insert(0, Check.codes("bc"), 0));
        x.redo();
        Check.state("insert behind redo()", x, () -> x.insert(0, Check.codes("b"), 0));
        Check.is("erase of one's own", x.erase(0, 1), 599);
        Check.is("insert", x.insert(0, Check.codes("b"), 0), 600);
    }
}
