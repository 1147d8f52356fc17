/** Promise 17: count() of runs, marks, groups and weights. */
public final class CountTest {
    public static void main(String[] args) {
        runsAndMarks();
        oldFormatsAreOfTheMark();
        formatsAreNotOfTheMark();
        groups();
        weightOfEachEdit();
        weightIsTrimmed();
        everyMarkAnotherOne();
        notBehindTheEnd();
        noSuchWhat();
        sixHundredDifferentMarks();
        longestRows();
        anOpenGroupIsNoneYet();
        whetherAGroupIsOpen();
        emptyText();
        Check.end();
    }

    private static void runsAndMarks() {
        Subject x = Check.holding("abcdefgh");
        runs(x, 0, 0);
        Check.tracked(x, 1);
        x.erase(0, 2);
        runs(x, 1, 1);
        x.erase(3, 2);
        runs(x, 2, 1);
        x.erase(7, 1);
        runs(x, 3, 1);
        x.author(2);
        x.erase(4, 2);
        runs(x, 5, 3);
        x.insert(8, Check.codes("ij"), 0);
        runs(x, 6, 4);
    }

    private static void oldFormatsAreOfTheMark() {
        Subject x = Check.holding("ab");
        x.format(1, 1, 1);
        Check.tracked(x, 1);
        x.format(0, 2, 5);
        runs(x, 2, 2);
    }

    private static void formatsAreNotOfTheMark() {
        Subject x = new Subject();
        Check.tracked(x, 1);
        x.insert(0, Check.codes("a"), 1);
        x.insert(1, Check.codes("b"), 2);
        runs(x, 1, 1);
    }

    private static void runs(Subject x, int runs, int marks) {
        Check.is("count(0)", x.count(0), runs);
        Check.is("count(1)", x.count(1), marks);
    }

    private static void groups() {
        Subject x = Check.holding("abc");
        x.insert(0, Check.codes("de"), 0);
        x.erase(0, 1);
        counts(x, "3 0 6 0 0");
        x.undo();
        counts(x, "2 1 5 1 0");
        x.undo();
        counts(x, "1 2 3 3 0");
        x.open();
        counts(x, "1 2 3 3 1");
        x.format(0, 3, 1);
        counts(x, "1 0 3 0 1");
        x.close();
        counts(x, "2 0 9 0 0");
    }

    private static void counts(Subject x, String want) {
        Check.is("count(2) to count(6)", x.count(2) + " " + x.count(3) + " " + x.count(4) + " " + x.count(5)
            + " " + x.count(6), want);
    }

    private static void weightOfEachEdit() {
        Subject x = Check.holding("abcdef");
        Check.tracked(x, 1);
        x.erase(1, 3);
        Check.is("three erased, tracked", x.count(4), 6 + 6);
        x.author(2);
        x.erase(0, 2);
        x.reject(0, 6, 4);
        Check.is("two erased and rejected", x.count(4), 6 + 6 + 4 + 4);
        x.erase(0, 1);
        x.erase(5, 1);
        Check.is("the first and the last one", x.count(4), 6 + 6 + 4 + 4 + 2 + 2);
        x.reject(0, 6, 4);
        Check.is("all that lies between them", x.count(4), 6 + 6 + 4 + 4 + 2 + 2 + 12);
    }

    private static void weightIsTrimmed() {
        Subject x = Check.holding("aaa");
        x.insert(1, Check.codes("a"), 0);
        Check.is("one among its like", x.count(4), 3 + 1);
        x = Check.holding("abab");
        x.erase(1, 2);
        Check.is("ab of a(ba)b", x.count(4), 4 + 2);
        x = Check.holding("aba");
        x.insert(1, Check.codes("ba"), 0);
        Check.is("ba behind a(ba)", x.count(4), 3 + 2);
        x = Check.holding("abc");
        x.insert(1, Check.codes("b"), 1);
        Check.is("the same code, another format", x.count(4), 3 + 1);
        x = Check.holding("ab");
        Check.tracked(x, 1);
        x.insert(1, Check.codes("b"), 0);
        x.author(2);
        x.erase(1, 1);
        Check.is("the same code, another mark", x.count(4), 2 + 1 + 2);
        x = Check.holding("abc");
        x.format(1, 1, 1);
        x.format(0, 3, 1);
        Check.is("the middle lies between", x.count(4), 3 + 2 + 6);
    }

    private static void everyMarkAnotherOne() {
        Subject x = Check.holding(250);
        for (int at = 0; at < 250; at++) {
            x.format(at, 1, at);
        }
        Check.tracked(x, 1);
        x.format(0, 250, 255);
        runs(x, 250, 250);
        x.format(250 - 1, 1, 249);
        runs(x, 249, 249);
    }

    private static void notBehindTheEnd() {
        Subject x = Check.holding("abcd");
        Check.tracked(x, 1);
        x.erase(0, 4);
        x.track(false);
        x.erase(0, 4);
        runs(x, 0, 0);
        x.insert(0, Check.codes("e"), 0);
        runs(x, 0, 0);
        x.insert(1, Check.codes("f"), 0);
        runs(x, 0, 0);
    }

    private static void noSuchWhat() {
        Subject x = Check.holding("abc");
        int[] wrong = {-1, 7, 8, Integer.MIN_VALUE, Integer.MAX_VALUE};
        for (int what : wrong) {
            Check.is("count(" + what + ")", x.count(what), -1);
        }
    }

    /** "how many different marks": as many as there are characters. */
    private static void sixHundredDifferentMarks() {
        Subject x = new Subject();
        for (int block = 0; block < 75; block++) {
            x.insert(8 * block, Check.codes("xxxxxxxx"), block);
        }
        for (int author = 1; author <= 4; author++) {
            Check.tracked(x, author);
            for (int block = 0; block < 75; block++) {
                x.erase(8 * block + author, 4);
            }
        }
        runs(x, 75 * 7, 7);
        x.format(0, 600, 255);
        runs(x, 600, 600);
    }

    /** "longest rows of characters with the same mark, not plain": whatever their codes and formats. */
    private static void longestRows() {
        Subject x = new Subject();
        Check.tracked(x, 1);
        for (int at = 0; at < 600; at += 8) {
            x.insert(at, Check.codes("abcdefgh"), at % 256);
        }
        runs(x, 1, 1);
        x.accept(1, 598, 2);
        runs(x, 2, 1);
        x.accept(0, 1, 2);
        runs(x, 1, 1);
        x.accept(599, 1, 2);
        runs(x, 0, 0);
        for (int at = 0; at < 300; at += 2) {
            x.erase(at, 1);
        }
        runs(x, 150, 1);
        x.author(2);
        x.erase(0, 300);
        runs(x, 300, 2);
    }

    /** "groups that can be undone (2; one that is open is none yet)": nor does it weigh. */
    private static void anOpenGroupIsNoneYet() {
        Subject x = new Subject();
        x.open();
        x.insert(0, Check.codes("abc"), 0);
        counts(x, "0 0 0 0 1");
        x.close();
        counts(x, "1 0 3 0 0");
        x.open();
        x.erase(0, 3);
        counts(x, "1 0 3 0 1");
        x.close();
        counts(x, "2 0 6 0 0");
    }

    /** "whether a group is open (6: 1 or 0)" */
    private static void whetherAGroupIsOpen() {
        Subject x = new Subject();
        Check.is("count(6) at first", x.count(6), 0);
        x.open();
        Check.is("count(6) behind open()", x.count(6), 1);
        x.insert(0, Check.codes("a"), 0);
        Check.is("count(6) behind an edit", x.count(6), 1);
        Check.state("open()", x, x::open);
        Check.is("count(6) behind open() again", x.count(6), 1);
        x.close();
        Check.is("count(6) behind close()", x.count(6), 0);
    }

    private static void emptyText() {
        Subject x = Check.holding("a");
        Check.tracked(x, 1);
        x.erase(0, 1);
        x.accept(0, 1, 2);
        runs(x, 0, 0);
        counts(x, "3 0 4 0 0");
    }
}
