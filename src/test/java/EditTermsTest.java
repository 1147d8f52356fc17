/** Terms: what the edits do to a character, clause by clause. */
public final class EditTermsTest {
    public static void main(String[] args) {
        insertedArePlainOrByTheAuthor();
        erasedGoes();
        erasedGoesTrackedIfOwn();
        erasedOtherwiseByOneMore();
        formattedAndNobodyDid();
        formattedOwnKeepsItsMark();
        formattedAsItIsByNobody();
        formattedAsItIsBySomebody();
        formattedToAnotherOne();
        formattedByTheSameOneAgain();
        oldFormatIsTheFirstOne();
        backToTheOldFormat();
        acceptedErasedGoes();
        acceptedInsertedByNobody();
        acceptedFormattedByNobody();
        acceptedByOthersStays();
        rejectedInsertedGoes();
        rejectedErasedByNoneOfThem();
        rejectedFormattedGetsItsOldFormat();
        rejectedByOthersStays();
        Check.end();
    }

    /** One character "a" of format 5 that author 1 inserted, 2 erased, 3 formatted (to 6). */
    private static Subject marked() {
        Subject x = new Subject();
        Check.tracked(x, 1);
        x.insert(0, Check.codes("a"), 5);
        x.author(2);
        x.erase(0, 1);
        x.author(3);
        x.format(0, 1, 6);
        Check.is("a character with all marks", Check.text(x), "a:6 2/4/8/5");
        return x;
    }

    private static void answers(String call, int got, int want, Subject x, String text) {
        Check.is(call, got, want);
        Check.is("the text behind " + call, Check.text(x), text);
    }

    /** "Inserted characters are plain; tracked, inserted by the author." */
    private static void insertedArePlainOrByTheAuthor() {
        Subject x = new Subject();
        x.author(7);
        answers("insert", x.insert(0, 'a', 0), 1, x, "a:0 0/0/0/-1");
        x.track(true);
        answers("insert, tracked", x.insert(0, 'b', 255), 2, x, "b:255 128/0/0/-1, a:0 0/0/0/-1");
        x.author(0);
        answers("inside another's", x.insert(1, 'c', 1), 3, x, "b:255 128/0/0/-1, c:1 1/0/0/-1, a:0 0/0/0/-1");
        Subject y = marked();
        answers("beside a marked one", y.insert(1, 'b', 0), 2, y, "a:6 2/4/8/5, b:0 8/0/0/-1");
    }

    /** "An erased character goes" */
    private static void erasedGoes() {
        Subject x = marked();
        x.track(false);
        answers("erase of a marked one", x.erase(0, 1), 0, x, "");
        x = Check.holding("ab");
        answers("erase of a plain one", x.erase(1, 1), 1, x, "a:0 0/0/0/-1");
    }

    /** "tracked, it goes if it is own to the author" */
    private static void erasedGoesTrackedIfOwn() {
        Subject x = marked();
        x.author(1);
        answers("erase of one's own", x.erase(0, 1), 0, x, "");
    }

    /** "otherwise the author is one more of those who erased it" */
    private static void erasedOtherwiseByOneMore() {
        Subject x = marked();
        x.author(7);
        answers("erase by one more", x.erase(0, 1), 1, x, "a:6 2/132/8/5");
        answers("erase by the same one again", x.erase(0, 1), 1, x, "a:6 2/132/8/5");
        Check.is("that is no group", x.count(2), 4);
    }

    /** "A formatted character gets the format, and nobody formatted it (any more)" */
    private static void formattedAndNobodyDid() {
        int[] formats = {5, 6, 7, 0, 255};
        for (int format : formats) {
            Subject x = marked();
            x.track(false);
            answers("format to " + format, x.format(0, 1, format), format == 6 ? 0 : 1, x,
                "a:" + format + " 2/4/0/-1");
        }
    }

    /** "tracked: if it is own to the author, it gets the format, and the rest of its mark stays" */
    private static void formattedOwnKeepsItsMark() {
        int[] formats = {5, 6, 7, 0, 255};
        for (int format : formats) {
            Subject x = marked();
            x.author(1);
            answers("format of one's own to " + format, x.format(0, 1, format), format == 6 ? 0 : 1, x,
                "a:" + format + " 2/4/8/5");
            Check.is("groups", x.count(2), format == 6 ? 3 : 4);
        }
        Subject x = new Subject();
        Check.tracked(x, 0);
        x.insert(0, 'a', 1);
        answers("nobody formatted it", x.format(0, 1, 2), 1, x, "a:2 1/0/0/-1");
    }

    /** "otherwise, if somebody formatted it, or its format is another one": if neither, nothing is done. */
    private static void formattedAsItIsByNobody() {
        Subject x = Check.holding("a");
        Check.tracked(x, 1);
        answers("format to the same one", x.format(0, 1, 0), 0, x, "a:0 0/0/0/-1");
        Check.is("that is no group", x.count(2), 1);
        x.insert(1, 'b', 3);
        x.author(2);
        answers("another's, to the same one", x.format(1, 1, 3), 0, x, "a:0 0/0/0/-1, b:3 2/0/0/-1");
        Check.is("that is no group", x.count(2), 2);
    }

    /** "if somebody formatted it": then the author is one more, though the format is no other one. */
    private static void formattedAsItIsBySomebody() {
        Subject x = marked();
        x.author(0);
        answers("format to the same one", x.format(0, 1, 6), 0, x, "a:6 2/4/9/5");
        Check.is("that is a group", x.count(2), 4);
    }

    /** "or its format is another one: it gets the format, the author is one more of those who formatted it" */
    private static void formattedToAnotherOne() {
        Subject x = new Subject();
        x.insert(0, 'a', 255);
        Check.tracked(x, 7);
        answers("format of a plain one", x.format(0, 1, 0), 1, x, "a:0 0/0/128/255");
        x.author(0);
        answers("format by one more", x.format(0, 1, 1), 1, x, "a:1 0/0/129/255");
    }

    /** The same: one who formatted it already is not one more. */
    private static void formattedByTheSameOneAgain() {
        Subject x = marked();
        answers("format by the same one", x.format(0, 1, 9), 1, x, "a:9 2/4/8/5");
        answers("once more, to the same", x.format(0, 1, 9), 0, x, "a:9 2/4/8/5");
        Check.is("that is no group", x.count(2), 4);
    }

    /** "its old format being the one that it had before any of these" */
    private static void oldFormatIsTheFirstOne() {
        Subject x = new Subject();
        x.insert(0, 'a', 40);
        for (int author = 0; author <= 7; author++) {
            Check.tracked(x, author);
            x.format(0, 1, 50 + author);
            Check.is("the old format", x.mark(0, 3), 40);
        }
        x.accept(0, 1, 128);
        x.format(0, 1, 60);
        Check.is("the old format behind accept()", Check.letter(x, 0), "a:60 0/0/128/57");
    }

    /** "and if its format is the old one then, nobody formatted it" */
    private static void backToTheOldFormat() {
        Subject x = marked();
        x.author(4);
        answers("another one, to the old format", x.format(0, 1, 5), 1, x, "a:5 2/4/0/-1");
        x = marked();
        answers("the same one, to the old format", x.format(0, 1, 5), 1, x, "a:5 2/4/0/-1");
        x = marked();
        x.author(1);
        x.format(0, 1, 5);
        x.author(4);
        answers("to the old format, which it has", x.format(0, 1, 5), 0, x, "a:5 2/4/0/-1");
        Check.is("that is a group", x.count(2), 5);
    }

    /** "A set of authors ACCEPTS a character: if one of them erased it, it goes" */
    private static void acceptedErasedGoes() {
        int[] sets = {4, 4 + 2, 4 + 8, 4 + 1, 255};
        for (int set : sets) {
            Subject x = marked();
            answers("accept by " + set, x.accept(0, 1, set), 1, x, "");
        }
        Subject x = marked();
        x.author(7);
        x.erase(0, 1);
        answers("accept by one of two who erased it", x.accept(0, 1, 128), 1, x, "");
    }

    /** "otherwise, if one of them inserted it, nobody did" */
    private static void acceptedInsertedByNobody() {
        Subject x = marked();
        answers("accept by 2", x.accept(0, 1, 2), 1, x, "a:6 0/4/8/5");
        x = marked();
        answers("accept by 2 and others", x.accept(0, 1, 2 + 1 + 128), 1, x, "a:6 0/4/8/5");
        answers("accept by 2 again", x.accept(0, 1, 2), 0, x, "a:6 0/4/8/5");
    }

    /** "and if one of them formatted it, nobody did" */
    private static void acceptedFormattedByNobody() {
        Subject x = marked();
        answers("accept by 8", x.accept(0, 1, 8), 1, x, "a:6 2/4/0/-1");
        x = marked();
        answers("accept by 2 and 8", x.accept(0, 1, 2 + 8), 1, x, "a:6 0/4/0/-1");
        x = marked();
        x.author(4);
        x.format(0, 1, 7);
        answers("accept by one of two who formatted it", x.accept(0, 1, 8), 1, x, "a:7 2/4/0/-1");
    }

    /** The same sentence: "one of them" is in the set. */
    private static void acceptedByOthersStays() {
        Subject x = marked();
        answers("accept by all others", x.accept(0, 1, 255 - 2 - 4 - 8), 0, x, "a:6 2/4/8/5");
        Check.is("that is no group", x.count(2), 3);
    }

    /** "It REJECTS one: if one of them inserted it, it goes" */
    private static void rejectedInsertedGoes() {
        int[] sets = {2, 2 + 4, 2 + 8, 2 + 1, 255};
        for (int set : sets) {
            Subject x = marked();
            answers("reject by " + set, x.reject(0, 1, set), 1, x, "");
        }
    }

    /** "otherwise none of them erased it" */
    private static void rejectedErasedByNoneOfThem() {
        Subject x = marked();
        answers("reject by 4", x.reject(0, 1, 4), 1, x, "a:6 2/0/8/5");
        x = marked();
        for (int author = 4; author <= 7; author++) {
            x.author(author);
            x.erase(0, 1);
        }
        answers("reject by some", x.reject(0, 1, 4 + 32 + 1), 1, x, "a:6 2/208/8/5");
        answers("reject by one of the others", x.reject(0, 1, 128), 1, x, "a:6 2/80/8/5");
        answers("reject by all of the others", x.reject(0, 1, 80), 1, x, "a:6 2/0/8/5");
    }

    /** "and if one of them formatted it, it gets its old format, and nobody did" */
    private static void rejectedFormattedGetsItsOldFormat() {
        Subject x = marked();
        answers("reject by 8", x.reject(0, 1, 8), 1, x, "a:5 2/4/0/-1");
        x = marked();
        answers("reject by 4 and 8", x.reject(0, 1, 4 + 8), 1, x, "a:5 2/0/0/-1");
        x = marked();
        x.author(4);
        x.format(0, 1, 7);
        answers("reject by one of two who formatted it", x.reject(0, 1, 16), 1, x, "a:5 2/4/0/-1");
        x = marked();
        x.author(1);
        x.format(0, 1, 5);
        answers("reject where the format is the old one", x.reject(0, 1, 8), 1, x, "a:5 2/4/0/-1");
    }

    /** The same sentence: "one of them" is in the set. */
    private static void rejectedByOthersStays() {
        Subject x = marked();
        answers("reject by all others", x.reject(0, 1, 255 - 2 - 4 - 8), 0, x, "a:6 2/4/8/5");
        Check.is("that is no group", x.count(2), 3);
    }
}
