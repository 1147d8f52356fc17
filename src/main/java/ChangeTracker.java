/**
 * A text that several authors change, at once or tracked as marks that can be accepted or rejected,
 * with all of it undone and redone in groups.
 */
public final class ChangeTracker {
    private static final int MOST_CHARACTERS = 600;
    private static final int MOST_GROUPS = 40;
    private static final int MOST_WEIGHT = 3000;
    private static final int AUTHORS = 8;
    private static final int MOST_CODES = 8;
    private static final int BITS_OF_CODE = 8;
    private static final int HIGHEST_BYTE = 255;
    private static final int VIEW_ALL = 0;
    private static final int VIEW_ACCEPTED = 1;
    private static final int VIEW_REJECTED = 2;

    private final History history;
    private final long[] marksFound;
    private Text text;
    private Text draft;
    private int worker;
    private boolean tracking;

    public ChangeTracker() {
        history = new History();
        marksFound = new long[MOST_CHARACTERS];
        text = new Text();
        draft = new Text();
        worker = 0;
        tracking = false;
    }

    public int author(int author) throws IllegalArgumentException {
        if (author < 0 || author >= AUTHORS) {
            throw new IllegalArgumentException("no such author");
        }
        int before = worker;
        worker = author;
        return before;
    }

    public boolean track(boolean on) {
        boolean before = tracking;
        tracking = on;
        return before;
    }

    public int insert(int at, long codes, int format)
            throws IndexOutOfBoundsException, IllegalArgumentException, IllegalStateException {
        requireRange(at, 0);
        requireFormat(format);
        int n = howManyCodes(codes);
        if (n == 0) {
            throw new IllegalArgumentException("no code");
        }
        if (text.size + n > MOST_CHARACTERS) {
            throw new IllegalStateException("the text would be too long");
        }
        int inserters = tracking ? workerBit() : 0;
        startDraft(at);
        for (int i = 0; i < n; i++) {
            draft.add(Letter.make(codeAt(codes, i), format, inserters));
        }
        finishDraft(at);
        return text.size;
    }

    public int erase(int at, int n) throws IndexOutOfBoundsException {
        requireRange(at, n);
        startDraft(at);
        for (int place = at; place < at + n; place++) {
            draft.add(afterErasing(text.at(place)));
        }
        finishDraft(at + n);
        return text.size;
    }

    public int format(int at, int n, int format) throws IndexOutOfBoundsException, IllegalArgumentException {
        requireRange(at, n);
        requireFormat(format);
        int changed = 0;
        startDraft(at);
        for (int place = at; place < at + n; place++) {
            long letter = text.at(place);
            if (Letter.get(letter, Letter.FORMAT) != format) {
                changed++;
            }
            draft.add(afterFormatting(letter, format));
        }
        finishDraft(at + n);
        return changed;
    }

    public int accept(int at, int n, int authors) throws IndexOutOfBoundsException, IllegalArgumentException {
        requireRange(at, n);
        requireSet(authors);
        return settleMarks(at, n, authors, true);
    }

    public int reject(int at, int n, int authors) throws IndexOutOfBoundsException, IllegalArgumentException {
        requireRange(at, n);
        requireSet(authors);
        return settleMarks(at, n, authors, false);
    }

    public void open() throws IllegalStateException {
        if (history.isOpen) {
            throw new IllegalStateException("a group is open");
        }
        history.isOpen = true;
    }

    public int close() throws IllegalStateException {
        if (!history.isOpen) {
            throw new IllegalStateException("no group is open");
        }
        history.isOpen = false;
        return history.endGroup();
    }

    public int undo() throws IllegalStateException {
        Group group = history.stepBack();
        if (group == null) {
            throw new IllegalStateException("a group is open, or none can be undone");
        }
        return crossOver(group);
    }

    public int redo() throws IllegalStateException {
        Group group = history.stepForward();
        if (group == null) {
            throw new IllegalStateException("a group is open, or none can be redone");
        }
        return crossOver(group);
    }

    public int length(int view) {
        if (!isView(view)) {
            return -1;
        }
        int n = 0;
        for (int place = 0; place < text.size; place++) {
            if (isInView(text.at(place), view)) {
                n++;
            }
        }
        return n;
    }

    public int seen(int view, int i, int what) throws IllegalArgumentException, IndexOutOfBoundsException {
        if (!isView(view) || what < 0 || what > 2) {
            throw new IllegalArgumentException("no such view or what");
        }
        int place = placeOfSeen(view, i);
        if (place < 0) {
            throw new IndexOutOfBoundsException("no such character in the view");
        }
        if (what == 2) {
            return place;
        }
        long letter = text.at(place);
        return what == 0 ? Letter.get(letter, Letter.CODE) : formatInView(letter, view);
    }

    public int mark(int at, int what) throws IndexOutOfBoundsException, IllegalArgumentException {
        requireRange(at, 1);
        long letter = text.at(at);
        switch (what) {
            case 0:
                return Letter.get(letter, Letter.INSERTED);
            case 1:
                return Letter.get(letter, Letter.ERASED);
            case 2:
                return Letter.get(letter, Letter.FORMATTED);
            case 3:
                return Letter.isFormatted(letter) ? Letter.get(letter, Letter.OLD) : -1;
            default:
                throw new IllegalArgumentException("no such what");
        }
    }

    public int next(int at, int authors) throws IndexOutOfBoundsException, IllegalArgumentException {
        requireRange(at, 0);
        requireSet(authors);
        for (int place = at; place < text.size; place++) {
            if ((Letter.markers(text.at(place)) & authors) != 0) {
                return place;
            }
        }
        return -1;
    }

    public int count(int what) {
        switch (what) {
            case 0:
                return countRuns();
            case 1:
                return countDifferentMarks();
            case 2:
                return history.done;
            case 3:
                return history.undone;
            case 4:
                return history.weightOfDone();
            case 5:
                return history.weightOfUndone();
            case 6:
                return history.isOpen ? 1 : 0;
            default:
                return -1;
        }
    }

    private void requireRange(int at, int n) {
        // at + n could wrap around; the length less n can't
        if (n < 0 || at < 0 || at > text.size - n) {
            throw new IndexOutOfBoundsException("no such place or range");
        }
    }

    private static void requireFormat(int format) {
        if (format < 0 || format > HIGHEST_BYTE) {
            throw new IllegalArgumentException("no such format");
        }
    }

    private static void requireSet(int authors) {
        if (authors < 1 || authors > HIGHEST_BYTE) {
            throw new IllegalArgumentException("no such set of authors");
        }
    }

    private static int codeAt(long codes, int i) {
        return (int) (codes >>> (i * BITS_OF_CODE)) & HIGHEST_BYTE;
    }

    private static int howManyCodes(long codes) {
        int n = 0;
        while (n < MOST_CODES && codeAt(codes, n) != 0) {
            n++;
        }
        return n;
    }

    private int workerBit() {
        return 1 << worker;
    }

    private void startDraft(int end) {
        draft.clear();
        draft.addPart(text, 0, end);
    }

    private void finishDraft(int from) {
        draft.addPart(text, from, text.size);
        int weight = text.weightOfChangeTo(draft);
        if (weight == 0) {
            return;
        }
        history.recordEdit(text, weight);
        Text before = text;
        text = draft;
        draft = before;
        if (!history.isOpen) {
            history.endGroup();
        }
    }

    private boolean isOwn(long letter) {
        return Letter.get(letter, Letter.INSERTED) == workerBit();
    }

    private long afterErasing(long letter) {
        if (!tracking || isOwn(letter)) {
            return Letter.GONE;
        }
        return Letter.with(letter, Letter.ERASED, Letter.get(letter, Letter.ERASED) | workerBit());
    }

    private long afterFormatting(long letter, int format) {
        long formatted = Letter.with(letter, Letter.FORMAT, format);
        if (!tracking) {
            return Letter.withoutFormatters(formatted);
        }
        if (isOwn(letter)) {
            return formatted;
        }
        int old = Letter.formatBefore(letter);
        if (format == old) {
            return Letter.withoutFormatters(formatted);
        }
        int formatters = Letter.get(letter, Letter.FORMATTED) | workerBit();
        return Letter.with(Letter.with(formatted, Letter.FORMATTED, formatters), Letter.OLD, old);
    }

    private int settleMarks(int at, int n, int authors, boolean accepting) {
        int changed = 0;
        startDraft(at);
        for (int place = at; place < at + n; place++) {
            long letter = text.at(place);
            long after = accepting ? Letter.accepted(letter, authors) : Letter.rejected(letter, authors);
            if (after == Letter.GONE || Letter.markOf(after) != Letter.markOf(letter)) {
                changed++;
            }
            draft.add(after);
        }
        finishDraft(at + n);
        return changed;
    }

    private int crossOver(Group group) {
        Text otherSide = group.otherSide;
        group.otherSide = text;
        text = otherSide;
        return group.edits;
    }

    private static boolean isView(int view) {
        return view >= VIEW_ALL && view <= VIEW_REJECTED;
    }

    private static boolean isInView(long letter, int view) {
        if (view == VIEW_ACCEPTED) {
            return Letter.get(letter, Letter.ERASED) == 0;
        }
        return view == VIEW_ALL || Letter.get(letter, Letter.INSERTED) == 0;
    }

    private static int formatInView(long letter, int view) {
        return view == VIEW_REJECTED ? Letter.formatBefore(letter) : Letter.get(letter, Letter.FORMAT);
    }

    private int placeOfSeen(int view, int i) {
        int n = 0;
        for (int place = 0; place < text.size; place++) {
            if (isInView(text.at(place), view)) {
                if (n == i) {
                    return place;
                }
                n++;
            }
        }
        return -1;
    }

    private int countRuns() {
        int runs = 0;
        long before = Letter.PLAIN;
        for (int place = 0; place < text.size; place++) {
            long mark = Letter.markOf(text.at(place));
            if (mark != Letter.PLAIN && mark != before) {
                runs++;
            }
            before = mark;
        }
        return runs;
    }

    private int countDifferentMarks() {
        int found = 0;
        for (int place = 0; place < text.size; place++) {
            long mark = Letter.markOf(text.at(place));
            if (mark != Letter.PLAIN && !isFound(mark, found) && found < marksFound.length) {
                marksFound[found] = mark;
                found++;
            }
        }
        return found;
    }

    private boolean isFound(long mark, int found) {
        for (int i = 0; i < found && i < marksFound.length; i++) {
            if (marksFound[i] == mark) {
                return true;
            }
        }
        return false;
    }

    /**
     * A character in one number, a byte each for code, format and mark, so that two characters are
     * the same, with formats and marks, just if their numbers are. The old format is 0 while nobody
     * formatted the character, so that this holds for marks, too.
     */
    private static final class Letter {
        static final int CODE = 0;
        static final int FORMAT = 8;
        static final int INSERTED = 16;
        static final int ERASED = 24;
        static final int FORMATTED = 32;
        static final int OLD = 40;

        /** No character has the code 0. */
        static final long GONE = 0L;
        static final long PLAIN = 0L;

        private static final long BYTE = 255L;

        static long make(int code, int format, int inserters) {
            return with(with(with(0L, CODE, code), FORMAT, format), INSERTED, inserters);
        }

        static int get(long letter, int part) {
            return (int) ((letter >>> part) & BYTE);
        }

        static long with(long letter, int part, int value) {
            return (letter & ~(BYTE << part)) | ((value & BYTE) << part);
        }

        static long markOf(long letter) {
            return letter >>> INSERTED;
        }

        static int markers(long letter) {
            return get(letter, INSERTED) | get(letter, ERASED) | get(letter, FORMATTED);
        }

        static boolean isFormatted(long letter) {
            return get(letter, FORMATTED) != 0;
        }

        static int formatBefore(long letter) {
            return get(letter, isFormatted(letter) ? OLD : FORMAT);
        }

        static long withoutFormatters(long letter) {
            return with(with(letter, FORMATTED, 0), OLD, 0);
        }

        static boolean isBy(long letter, int part, int authors) {
            return (get(letter, part) & authors) != 0;
        }

        static long accepted(long letter, int authors) {
            if (isBy(letter, ERASED, authors)) {
                return GONE;
            }
            long after = isBy(letter, INSERTED, authors) ? with(letter, INSERTED, 0) : letter;
            return isBy(letter, FORMATTED, authors) ? withoutFormatters(after) : after;
        }

        static long rejected(long letter, int authors) {
            if (isBy(letter, INSERTED, authors)) {
                return GONE;
            }
            long after = with(letter, ERASED, get(letter, ERASED) & ~authors);
            if (!isBy(letter, FORMATTED, authors)) {
                return after;
            }
            return withoutFormatters(with(after, FORMAT, get(letter, OLD)));
        }
    }

    /** A row of characters. */
    private static final class Text {
        private final long[] row = new long[MOST_CHARACTERS];
        int size = 0;

        long at(int place) {
            return place >= 0 && place < row.length ? row[place] : Letter.GONE;
        }

        void clear() {
            size = 0;
        }

        void add(long letter) {
            if (letter != Letter.GONE && size >= 0 && size < row.length) {
                row[size] = letter;
                size++;
            }
        }

        void addPart(Text other, int from, int end) {
            int n = Math.min(Math.min(end, other.row.length) - from, row.length - size);
            if (from >= 0 && size >= 0 && n > 0) {
                System.arraycopy(other.row, from, row, size, n);
                size += n;
            }
        }

        int weightOfChangeTo(Text after) {
            int shorter = Math.min(size, after.size);
            int head = 0;
            while (head < shorter && at(head) == after.at(head)) {
                head++;
            }
            int tail = 0;
            while (tail < shorter - head && at(size - 1 - tail) == after.at(after.size - 1 - tail)) {
                tail++;
            }
            return size + after.size - 2 * (head + tail);
        }
    }

    /** A group of edits, with the text on that side of it where the tracker's own text is not. */
    private static final class Group {
        Text otherSide = new Text();
        int edits = 0;
        int weight = 0;

        void restart(Text before) {
            otherSide.clear();
            otherSide.addPart(before, 0, before.size);
            edits = 0;
            weight = 0;
        }
    }

    /**
     * The groups: those that can be undone, the earliest first, and then either those that can be
     * redone, the next one first, or the one that is being made.
     */
    private static final class History {
        private final Group[] groups = new Group[MOST_GROUPS + 1];
        int done = 0;
        int undone = 0;
        boolean isOpen = false;
        private boolean isBegun = false;

        void recordEdit(Text before, int weight) {
            undone = 0;
            Group group = groupBeingMade();
            if (!isBegun) {
                group.restart(before);
                isBegun = true;
            }
            group.edits++;
            group.weight += weight;
        }

        /** Answers how many edits the group has. */
        int endGroup() {
            if (!isBegun) {
                return 0;
            }
            int edits = groupBeingMade().edits;
            isBegun = false;
            done++;
            for (int left = done; left > 0 && isTooMuch(); left--) {
                forgetEarliest();
            }
            return edits;
        }

        /** Answers the group to undo, or null if there is none now. */
        Group stepBack() {
            if (isOpen || done <= 0 || done > groups.length) {
                return null;
            }
            done--;
            undone++;
            return groups[done];
        }

        /** Answers the group to redo, or null if there is none now. */
        Group stepForward() {
            if (isOpen || undone <= 0 || done < 0 || done >= groups.length) {
                return null;
            }
            done++;
            undone--;
            return groups[done - 1];
        }

        int weightOfDone() {
            return weightBetween(0, done);
        }

        int weightOfUndone() {
            return weightBetween(done, done + undone);
        }

        private int weightBetween(int from, int end) {
            int weight = 0;
            for (int i = Math.max(from, 0); i < end && i < groups.length; i++) {
                if (groups[i] != null) {
                    weight += groups[i].weight;
                }
            }
            return weight;
        }

        private boolean isTooMuch() {
            return done > MOST_GROUPS || weightOfDone() > MOST_WEIGHT;
        }

        /** Groups are made when they are first needed, as each has a row, and most objects need few. */
        private Group groupBeingMade() {
            int i = Math.min(Math.max(done, 0), groups.length - 1);
            if (groups[i] == null) {
                groups[i] = new Group();
            }
            return groups[i];
        }

        /** The group goes behind the others, where its row is used again. */
        private void forgetEarliest() {
            Group earliest = groups[0];
            for (int i = 1; i < done && i < groups.length; i++) {
                groups[i - 1] = groups[i];
            }
            done--;
            if (done >= 0 && done < groups.length) {
                groups[done] = earliest;
            }
        }
    }
}
