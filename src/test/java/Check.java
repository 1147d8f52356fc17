/** What the tests share: they print every call whose answer is not the one that is due. */
final class Check {
    private static int wrong = 0;

    private Check() {
    }

    static void is(String call, long got, long want) {
        if (got != want) {
            tell(call, Long.toString(got), Long.toString(want));
        }
    }

    static void is(String call, boolean got, boolean want) {
        if (got != want) {
            tell(call, Boolean.toString(got), Boolean.toString(want));
        }
    }

    static void is(String call, String got, String want) {
        if (!got.equals(want)) {
            tell(call, got, want);
        }
    }

    /** The call throws IndexOutOfBoundsException itself, and changes nothing. */
    static void index(String call, Subject x, Runnable r) {
        thrown(call, x, r, IndexOutOfBoundsException.class);
    }

    /** The call throws IllegalArgumentException itself, and changes nothing. */
    static void argument(String call, Subject x, Runnable r) {
        thrown(call, x, r, IllegalArgumentException.class);
    }

    /** The call throws IllegalStateException itself, and changes nothing. */
    static void state(String call, Subject x, Runnable r) {
        thrown(call, x, r, IllegalStateException.class);
    }

    /** Ends the test, with exit code 1 if there was a wrong answer. */
    static void end() {
        System.out.println(wrong == 0 ? "all answers are as due" : wrong + " answers are not as due");
        if (wrong != 0) {
            System.exit(1);
        }
    }

    /** A new object with a plain text of format 0. */
    static Subject holding(String text) {
        Subject x = new Subject();
        for (int i = 0; i < text.length(); i += 8) {
            x.insert(i, codes(text.substring(i, Math.min(i + 8, text.length()))), 0);
        }
        return x;
    }

    /** A new object with n plain characters of format 0. */
    static Subject holding(int n) {
        return holding("x".repeat(n));
    }

    /** Up to eight characters as insert() takes them. */
    static long codes(String text) {
        long codes = 0;
        for (int i = 0; i < text.length(); i++) {
            codes |= (long) text.charAt(i) << (8 * i);
        }
        return codes;
    }

    /** Lets an author be at work, with tracking on. */
    static void tracked(Subject x, int author) {
        x.author(author);
        x.track(true);
    }

    /** The characters of a view. */
    static String view(Subject x, int view) {
        StringBuilder text = new StringBuilder();
        int n = x.length(view);
        for (int i = 0; i < n; i++) {
            text.append((char) x.seen(view, i, 0));
        }
        return text.toString();
    }

    /** One character: code:format inserted/erased/formatted/old. */
    static String letter(Subject x, int at) {
        return (char) x.seen(0, at, 0) + ":" + x.seen(0, at, 1) + " " + x.mark(at, 0) + "/" + x.mark(at, 1)
            + "/" + x.mark(at, 2) + "/" + x.mark(at, 3);
    }

    /** All characters with formats and marks. */
    static String text(Subject x) {
        StringBuilder text = new StringBuilder();
        int n = x.length(0);
        for (int at = 0; at < n; at++) {
            text.append(at == 0 ? "" : ", ").append(letter(x, at));
        }
        return text.toString();
    }

    /** All that can be seen of an object. */
    static String all(Subject x) {
        StringBuilder all = new StringBuilder(text(x));
        for (int what = 0; what <= 6; what++) {
            all.append("; ").append(x.count(what));
        }
        return all.append("; author ").append(x.worker()).append(x.isTracking() ? " tracks" : "").toString();
    }

    /**
     * The texts that can be reached by undoing and redoing, with what each step answers and the counts
     * then. Ends a group that is open, so it stands last in a test.
     */
    static String history(Subject x) {
        StringBuilder history = new StringBuilder(all(x));
        if (x.count(6) == 1) {
            history.append("; close ").append(x.close());
        }
        while (x.count(3) > 0) {
            history.append("; redo ").append(x.redo()).append(": ").append(all(x));
        }
        while (x.count(2) > 0) {
            history.append("; undo ").append(x.undo()).append(": ").append(all(x));
        }
        while (x.count(3) > 0) {
            history.append("; redo ").append(x.redo()).append(": ").append(all(x));
        }
        return history.toString();
    }

    private static void thrown(String call, Subject x, Runnable r, Class<?> want) {
        String before = all(x);
        String got = "nothing";
        try {
            r.run();
        } catch (RuntimeException e) {
            got = e.getClass().getSimpleName();
        }
        is(call + " throws", got, want.getSimpleName());
        is("the state behind " + call, all(x), before);
    }

    private static void tell(String call, String got, String want) {
        wrong++;
        System.out.println(call + " answered " + got + ", due is " + want);
    }
}
