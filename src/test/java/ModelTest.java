import java.util.Random;
import java.util.function.LongSupplier;

/** All promises: long runs of calls, always the same ones, answered as Model answers them. */
public final class ModelTest {
    private static final int RUNS = 100;
    private static final int CALLS = 512;
    private static final int CALLS_BETWEEN_LOOKS = 32;

    private final Random random;
    private final Subject tracker = new Subject();
    private final Model model = new Model();
    private final int authorsInUse;
    private final int formatsInUse;
    private final int codesInUse;
    private final int wrongOnesIn;
    private final boolean longText;

    private ModelTest(int seed) {
        random = new Random(seed);
        authorsInUse = 1 + random.nextInt(8);
        formatsInUse = 1 + random.nextInt(6);
        codesInUse = 1 + random.nextInt(4);
        wrongOnesIn = 5 + random.nextInt(100);
        longText = random.nextInt(3) == 0;
    }

    public static void main(String[] args) {
        for (int seed = 0; seed < RUNS; seed++) {
            new ModelTest(seed).run(seed);
        }
        Check.end();
    }

    private void run(int seed) {
        int first = longText ? 80 : 0;
        for (int i = 0; i < CALLS; i++) {
            String call = "run " + seed + ", call " + i + ": ";
            if (i < first) {
                insert(call);
            } else {
                anyCall(call);
            }
            if (i % CALLS_BETWEEN_LOOKS == 0) {
                compareAll(call);
            }
        }
        compareAll("run " + seed + ", end: ");
    }

    private void anyCall(String call) {
        switch (random.nextInt(22)) {
            case 0, 1 -> {
                int a = number(authorsInUse);
                both(call + "author(" + a + ")", () -> tracker.author(a), () -> model.author(a));
            }
            case 2 -> {
                boolean on = random.nextInt(4) != 0;
                both(call + "track(" + on + ")", () -> tracker.track(on) ? 1 : 0, () -> model.track(on) ? 1 : 0);
            }
            case 3, 4, 5, 6 -> insert(call);
            case 7, 8 -> erase(call);
            case 9, 10, 11 -> format(call);
            case 12, 13 -> judge(call);
            case 14 -> openOrClose(call);
            case 15, 16 -> both(call + "undo()", tracker::undo, model::undo);
            case 17 -> both(call + "redo()", tracker::redo, model::redo);
            case 18 -> {
                int view = number(3);
                int i = number(size() + 1);
                int what = number(3);
                both(call + "seen(" + view + ", " + i + ", " + what + ")",
                    () -> tracker.seen(view, i, what), () -> model.seen(view, i, what));
            }
            case 19 -> {
                int at = number(size() + 1);
                int what = number(4);
                both(call + "mark(" + at + ", " + what + ")",
                    () -> tracker.mark(at, what), () -> model.mark(at, what));
            }
            case 20 -> {
                int at = number(size() + 1);
                int authors = set();
                both(call + "next(" + at + ", " + authors + ")",
                    () -> tracker.next(at, authors), () -> model.next(at, authors));
            }
            default -> {
                int what = number(7);
                both(call + "count(" + what + ")", () -> tracker.count(what), () -> model.count(what));
                both(call + "length(" + what + ")", () -> tracker.length(what), () -> model.length(what));
            }
        }
    }

    private void insert(String call) {
        int at = number(size() + 1);
        long codes = codes();
        int format = number(formatsInUse);
        both(call + "insert(" + at + ", " + codes + ", " + format + ")",
            () -> tracker.insert(at, codes, format), () -> model.insert(at, codes, format));
    }

    private void erase(String call) {
        int at = number(size() + 1);
        int n = howMany(at, 12);
        both(call + "erase(" + at + ", " + n + ")", () -> tracker.erase(at, n), () -> model.erase(at, n));
    }

    private void format(String call) {
        int at = number(size() + 1);
        int n = howMany(at, 600);
        int format = number(formatsInUse);
        both(call + "format(" + at + ", " + n + ", " + format + ")",
            () -> tracker.format(at, n, format), () -> model.format(at, n, format));
    }

    private void judge(String call) {
        int at = number(size() + 1);
        int n = howMany(at, 40);
        int authors = set();
        if (random.nextBoolean()) {
            both(call + "accept(" + at + ", " + n + ", " + authors + ")",
                () -> tracker.accept(at, n, authors), () -> model.accept(at, n, authors));
        } else {
            both(call + "reject(" + at + ", " + n + ", " + authors + ")",
                () -> tracker.reject(at, n, authors), () -> model.reject(at, n, authors));
        }
    }

    private void openOrClose(String call) {
        boolean close = (model.count(6) == 1) == (random.nextInt(wrongOnesIn) != 0);
        if (close) {
            both(call + "close()", tracker::close, model::close);
        } else {
            both(call + "open()", () -> {
                tracker.open();
                return 0;
            }, () -> {
                model.open();
                return 0;
            });
        }
    }

    private void compareAll(String call) {
        for (int view = 0; view < 3; view++) {
            int v = view;
            both(call + "length(" + v + ")", () -> tracker.length(v), () -> model.length(v));
        }
        for (int what = 0; what < 7; what++) {
            int w = what;
            both(call + "count(" + w + ")", () -> tracker.count(w), () -> model.count(w));
        }
        for (int at = 0; at < size(); at++) {
            int p = at;
            both(call + "code at " + p, () -> tracker.seen(0, p, 0), () -> model.seen(0, p, 0));
            both(call + "format at " + p, () -> tracker.seen(0, p, 1), () -> model.seen(0, p, 1));
            for (int what = 0; what < 4; what++) {
                int w = what;
                both(call + "mark(" + p + ", " + w + ")", () -> tracker.mark(p, w), () -> model.mark(p, w));
            }
        }
    }

    private static void both(String call, LongSupplier tracker, LongSupplier model) {
        Check.is(call, answer(tracker), answer(model));
    }

    private static String answer(LongSupplier call) {
        try {
            return Long.toString(call.getAsLong());
        } catch (RuntimeException e) {
            return "throws." + e.getClass().getSimpleName();
        }
    }

    private int size() {
        return model.length(0);
    }

    /** Mostly 0 .. bound - 1, now and then a wrong one. */
    private int number(int bound) {
        if (random.nextInt(wrongOnesIn) != 0) {
            return random.nextInt(bound);
        }
        int[] wrong = {-1, bound, bound + 1, 256, Integer.MIN_VALUE, Integer.MAX_VALUE};
        return wrong[random.nextInt(wrong.length)];
    }

    private int howMany(int at, int most) {
        int left = Math.max(0, Math.min(most, size() - at));
        return number(left + 1);
    }

    private int set() {
        if (random.nextInt(wrongOnesIn) == 0) {
            return number(1);
        }
        return random.nextBoolean() ? 1 << random.nextInt(authorsInUse) : 1 + random.nextInt(255);
    }

    private long codes() {
        long codes = 0;
        int n = longText ? 8 : 1 + random.nextInt(8);
        for (int i = 0; i < n; i++) {
            codes |= (255L - random.nextInt(codesInUse)) << (8 * i);
        }
        return random.nextInt(wrongOnesIn) == 0 ? codes << 8 : codes;
    }
}
