/** Terms: the weight of an edit, and how many groups and what weight can be undone at most. */
public final class WeightTermsTest {
    public static void main(String[] args) {
        charactersBeforeAndBehind();
        allBetweenTheFirstAndTheLastPlace();
        sameAtTheEndsAreTakenAway();
        sameWithFormatsAndMarks();
        fromTheBeginningFirst();
        leastAndMostWeight();
        aGroupsWeight();
        fortyGroups();
        weightOfThreeThousand();
        whenAGroupEnds();
        earliestOnes();
        againAndAgain();
        asFewAsNeedBe();
        bothLimitsAtOnce();
        aGroupTooHeavyByItself();
        undoneOnesDoNotCount();
        undoAndRedoForgetNone();
        Check.end();
    }

    private static void weighs(String call, Subject x, int groups, int weight) {
        Check.is("count(2) behind " + call, x.count(2), groups);
        Check.is("count(4) behind " + call, x.count(4), weight);
    }

    /** "how many characters lie between the first and the last place that it changes (.. both counted" */
    private static void charactersBeforeAndBehind() {
        Subject x = Check.holding("abcdefgh");
        weighs("insert of 8: 0 and 8", x, 1, 8);
        x.erase(2, 3);
        weighs("erase of 3: 3 and 0", x, 2, 8 + 3);
        x.format(1, 2, 1);
        weighs("format of 2: 2 and 2", x, 3, 11 + 4);
        Check.tracked(x, 1);
        x.erase(0, 5);
        weighs("erase of 5, tracked: 5 and 5", x, 4, 15 + 10);
        x.reject(1, 1, 2);
        weighs("reject of 1: 1 and 1", x, 5, 25 + 2);
        x.accept(0, 5, 2);
        weighs("accept of 5, of which one stays: 5 and 1", x, 6, 27 + 6);
    }

    /** "between the first and the last place": those in the midst are counted, changed or not. */
    private static void allBetweenTheFirstAndTheLastPlace() {
        Subject x = Check.holding("abcdefgh");
        x.format(1, 6, 1);
        weighs("format of six", x, 2, 8 + 12);
        x.format(0, 8, 1);
        weighs("format that changes the first and the last", x, 3, 20 + 16);
        Check.tracked(x, 1);
        x.erase(2, 1);
        x.erase(5, 1);
        x.accept(0, 8, 2);
        weighs("accept with two that go, two between them", x, 6, 36 + 2 + 2 + 4 + 2);
    }

    /** "places are taken away from both ends as far as the characters there .. are the same" */
    private static void sameAtTheEndsAreTakenAway() {
        Subject x = Check.holding("abcdefgh");
        x.format(3, 2, 1);
        x.format(0, 8, 0);
        weighs("format of eight that changes two", x, 3, 8 + 4 + 4);
        x = Check.holding("aabaa");
        x.insert(2, Check.codes("baa"), 0);
        weighs("aabaa to aa(baa)baa", x, 2, 5 + 3);
        x.erase(0, 3);
        weighs("aabaabaa to aabaa", x, 3, 5 + 3 + 3);
    }

    /** "the characters there, with formats and marks": the code alone is not enough. */
    private static void sameWithFormatsAndMarks() {
        Subject x = Check.holding("aaaa");
        x.insert(4, Check.codes("a"), 1);
        x.erase(0, 1);
        weighs("erase of the first of aaaa and an a of format 1", x, 3, 4 + 1 + 1);
        x.erase(2, 2);
        weighs("erase of the last two of them, of two formats", x, 4, 6 + 2);
        x = Check.holding("aa");
        Check.tracked(x, 1);
        x.erase(0, 1);
        x.track(false);
        x.insert(0, Check.codes("a"), 0);
        weighs("insert of a plain one before an erased one", x, 3, 2 + 2 + 1);
        x.erase(0, 2);
        weighs("erase of a plain and an erased one before a plain one", x, 4, 5 + 2);
    }

    /** "from the beginning first": no place is taken away twice. */
    private static void fromTheBeginningFirst() {
        for (int at = 0; at <= 3; at++) {
            Subject x = Check.holding("aaa");
            x.insert(at, Check.codes("aa"), 0);
            weighs("insert of aa at " + at + " of aaa", x, 2, 3 + 2);
            x.erase(at, 2);
            weighs("erase of aa at " + at, x, 3, 3 + 2 + 2);
        }
        Subject x = Check.holding("abab");
        x.erase(1, 2);
        weighs("abab to ab", x, 2, 4 + 2);
        x = Check.holding("aba");
        x.insert(1, Check.codes("ba"), 0);
        weighs("aba to ababa", x, 2, 3 + 2);
    }

    /** An edit that changes nothing weighs nothing; one of a full text weighs 1200. */
    private static void leastAndMostWeight() {
        Subject x = Check.holding(600);
        int before = x.count(4);
        x.format(0, 600, 0);
        Check.is("count(4) behind no change", x.count(4), before);
        x.open();
        x.format(0, 600, 1);
        x.close();
        x.undo();
        Check.is("count(5) of a format of 600", x.count(5), 1200);
        x.format(0, 1, 1);
        x.undo();
        Check.is("count(5) of a format of one", x.count(5), 2);
        x.erase(599, 1);
        x.undo();
        Check.is("count(5) of an erased one", x.count(5), 1);
    }

    /** A group weighs what its edits weigh, not what changed between its ends. */
    private static void aGroupsWeight() {
        Subject x = Check.holding("abc");
        x.open();
        x.insert(3, Check.codes("de"), 0);
        x.erase(3, 2);
        x.format(0, 3, 1);
        x.format(0, 3, 0);
        Check.is("count(4) while it is open", x.count(4), 3);
        x.close();
        weighs("edits that cancel out", x, 2, 3 + 2 + 2 + 6 + 6);
    }

    /** "At most 40 groups .. can be undone" */
    private static void fortyGroups() {
        Subject x = new Subject();
        for (int i = 1; i <= 120; i++) {
            x.insert(i - 1, Check.codes("a"), i);
            Check.is("count(2) behind " + i + " groups", x.count(2), Math.min(i, 40));
        }
        for (int i = 1; i <= 40; i++) {
            Check.is("undo() " + i, x.undo(), 1);
            Check.is("length(0) behind undo() " + i, x.length(0), 120 - i);
        }
        Check.state("undo() of the 41st", x, x::undo);
        for (int i = 1; i <= 40; i++) {
            Check.is("redo() " + i, x.redo(), 1);
            Check.is("the last format", x.seen(0, 80 + i - 1, 1), 80 + i);
        }
        Check.state("redo() of the 41st", x, x::redo);
    }

    /** "and a weight of 3000 in all" */
    private static void weightOfThreeThousand() {
        Subject x = Check.holding(600);
        x.format(0, 600, 1);
        x.format(0, 600, 2);
        x.format(0, 299, 3);
        weighs("3006: the last one of 8 is forgotten, too", x, 3, 1200 + 1200 + 598);
        x.erase(0, 1);
        weighs("2999", x, 4, 2999);
        x.erase(0, 1);
        weighs("3000", x, 5, 3000);
        x.erase(0, 1);
        weighs("3001", x, 5, 3001 - 1200);
        Check.is("undo()", x.undo(), 1);
        Check.is("redo()", x.redo(), 1);
        weighs("redo()", x, 5, 3001 - 1200);
    }

    /** "if there are more when a group ends": not before. */
    private static void whenAGroupEnds() {
        Subject x = new Subject();
        for (int i = 0; i < 40; i++) {
            x.insert(i, Check.codes("a"), 0);
        }
        x.open();
        for (int i = 0; i < 60; i++) {
            x.insert(0, Check.codes("b"), 0);
            Check.is("count(2) in the open group", x.count(2), 40);
            Check.is("count(4) in the open group", x.count(4), 40);
        }
        Check.is("close()", x.close(), 60);
        weighs("close()", x, 40, 39 + 60);
        x.open();
        for (int i = 0; i < 20; i++) {
            x.format(0, 100, 1 + i);
            Check.is("count(2) in the open group", x.count(2), 40);
        }
        Check.is("close() of a weight of 4000", x.close(), 20);
        weighs("close() of a weight of 4000", x, 0, 0);
    }

    /** "the earliest ones are forgotten" */
    private static void earliestOnes() {
        Subject x = new Subject();
        for (int i = 0; i < 43; i++) {
            x.insert(0, Check.codes("a"), i);
        }
        for (int i = 0; i < 40; i++) {
            x.undo();
        }
        Check.is("the text behind the first three groups", Check.text(x),
            "a:2 0/0/0/-1, a:1 0/0/0/-1, a:0 0/0/0/-1");
        Check.state("undo() of the third", x, x::undo);
    }

    /** The same, when there were forty before and some were forgotten for their weight. */
    private static void againAndAgain() {
        Subject x = Check.holding(400);
        x.format(0, 400, 1);
        x.format(0, 400, 2);
        x.format(0, 400, 3);
        x.format(0, 300, 4);
        weighs("3000", x, 4, 3000);
        for (int i = 1; i <= 45; i++) {
            x.format(i, 1, 100 + i);
        }
        weighs("45 groups of 2", x, 40, 80);
        for (int i = 1; i <= 40; i++) {
            x.undo();
            Check.is("the format behind undo() " + i, x.seen(0, 46 - i, 1), 4);
            Check.is("the format before it", x.seen(0, 45 - i, 1), 145 - i);
        }
        for (int i = 1; i <= 40; i++) {
            x.redo();
            Check.is("the format behind redo() " + i, x.seen(0, 5 + i, 1), 105 + i);
            Check.is("the format after it", x.seen(0, 6 + i, 1), 4);
        }
    }

    /** "as few as need be" */
    private static void asFewAsNeedBe() {
        Subject x = Check.holding(600);
        x.format(0, 600, 1);
        x.format(0, 600, 2);
        weighs("2400 and 320", x, 40, 2400 + 8 * 38);
        x.format(0, 148, 3);
        weighs("just 3000", x, 40, 2400 + 296 + 8 * 37);
        x.format(0, 8, 4);
        weighs("just 3000 again", x, 40, 2400 + 296 + 16 + 8 * 36);
    }

    /** Both limits: forty groups, and a weight of 3000, are what is left at most. */
    private static void bothLimitsAtOnce() {
        Subject x = fortyGroupsOfSeventyFive();
        weighs("40 groups of 75", x, 40, 3000);
        x.insert(0, Check.codes("a"), 0);
        weighs("one more of 1", x, 40, 3000 - 75 + 1);
        x = fortyGroupsOfSeventyFive();
        x.format(0, 38, 200);
        weighs("one more of 76", x, 39, 3000 - 150 + 76);
        x = fortyGroupsOfSeventyFive();
        x.format(0, 75, 200);
        weighs("one more of 150", x, 39, 3000 - 150 + 150);
        x.format(0, 76, 201);
        weighs("one more of 152", x, 37, 3000 - 225 + 152);
    }

    /** A text of 80, and forty groups that weigh 75 each: 37 formatted, one inserted or erased. */
    private static Subject fortyGroupsOfSeventyFive() {
        Subject x = Check.holding(80);
        for (int i = 0; i < 40; i++) {
            x.open();
            x.format(0, 37, 100 + i);
            if (i % 2 == 0) {
                x.erase(79, 1);
            } else {
                x.insert(79, Check.codes("y"), 0);
            }
            x.close();
        }
        return x;
    }

    /** The same sentence, if it is the last group that is too heavy: 3000 are kept, 3001 are not. */
    private static void aGroupTooHeavyByItself() {
        Subject x = Check.holding(500);
        x.open();
        x.format(0, 500, 1);
        x.format(0, 500, 2);
        x.format(0, 500, 3);
        x.close();
        weighs("a group of 3000", x, 1, 3000);
        Check.is("undo() of it", x.undo(), 3);
        Check.is("redo() of it", x.redo(), 3);
        Subject y = Check.holding(500);
        y.open();
        y.format(0, 500, 1);
        y.format(0, 500, 2);
        y.format(0, 500, 3);
        y.erase(0, 1);
        Check.is("close() of a group of 3001", y.close(), 4);
        weighs("a group of 3001", y, 0, 0);
        Check.state("undo() of a group of 3001", y, y::undo);
        Check.is("length(0)", y.length(0), 499);
        y.insert(0, Check.codes("a"), 0);
        weighs("a group behind it", y, 1, 1);
        Check.is("undo()", y.undo(), 1);
        Check.is("length(0)", y.length(0), 499);
    }

    /** "can be undone": those that can be redone are not among the 40 and the 3000. */
    private static void undoneOnesDoNotCount() {
        Subject x = new Subject();
        for (int i = 0; i < 40; i++) {
            x.insert(i, Check.codes("a"), 0);
        }
        x.undo();
        x.undo();
        x.insert(0, Check.codes("b"), 0);
        weighs("one more than 38", x, 39, 39);
        x.insert(0, Check.codes("b"), 0);
        weighs("one more than 39", x, 40, 40);
        x.insert(0, Check.codes("b"), 0);
        weighs("one more than 40", x, 40, 40);
    }

    /** "when a group ends": undo() and redo() end none. */
    private static void undoAndRedoForgetNone() {
        Subject x = fortyGroupsOfSeventyFive();
        for (int i = 1; i <= 40; i++) {
            x.undo();
            weighs("undo() " + i, x, 40 - i, 3000 - 75 * i);
            Check.is("count(3)", x.count(3), i);
            Check.is("count(5)", x.count(5), 75 * i);
        }
        for (int i = 1; i <= 40; i++) {
            x.redo();
            weighs("redo() " + i, x, i, 75 * i);
            Check.is("count(3)", x.count(3), 40 - i);
            Check.is("count(5)", x.count(5), 3000 - 75 * i);
        }
    }
}
