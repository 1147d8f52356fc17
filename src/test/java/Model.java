import java.util.ArrayList;
import java.util.HashSet;
import java.util.List;
import java.util.Set;

/** The document's words again, as plainly as the Java library allows, for ModelTest to compare with. */
final class Model {
    /** A character: old is -1 while nobody formatted it. */
    record Char(int code, int format, Set<Integer> inserted, Set<Integer> erased, Set<Integer> formatted, int old) {
        List<Object> mark() {
            return List.of(inserted, erased, formatted, old);
        }

        boolean isPlain() {
            return inserted.isEmpty() && erased.isEmpty() && formatted.isEmpty();
        }
    }

    /** A group, with the texts before and behind it. */
    record Group(List<Char> before, List<Char> behind, int edits, int weight) {
    }

    private List<Char> text = List.of();
    private int author = 0;
    private boolean tracking = false;
    private final List<Group> done = new ArrayList<>();
    private final List<Group> undone = new ArrayList<>();
    private boolean isOpen = false;
    private List<Char> atOpen;
    private int openEdits;
    private int openWeight;

    int author(int a) {
        argument(a >= 0 && a <= 7);
        int was = author;
        author = a;
        return was;
    }

    boolean track(boolean on) {
        boolean was = tracking;
        tracking = on;
        return was;
    }

    int insert(int at, long codes, int format) {
        index(at >= 0 && at <= text.size());
        argument(format >= 0 && format <= 255 && (codes & 255) != 0);
        List<Char> put = new ArrayList<>();
        Set<Integer> by = tracking ? Set.of(author) : Set.of();
        for (int i = 0; i < 8; i++) {
            int code = (int) ((codes >> (8 * i)) & 255);
            if (code == 0) {
                break;
            }
            put.add(new Char(code, format, by, Set.of(), Set.of(), -1));
        }
        state(text.size() + put.size() <= 600);
        List<Char> after = new ArrayList<>(text);
        after.addAll(at, put);
        edit(after);
        return text.size();
    }

    int erase(int at, int n) {
        range(at, n);
        List<Char> after = new ArrayList<>();
        for (int i = 0; i < text.size(); i++) {
            Char c = text.get(i);
            boolean inRange = i >= at && i < at + n;
            if (!inRange) {
                after.add(c);
            } else if (tracking && !c.inserted.equals(Set.of(author))) {
                after.add(new Char(c.code, c.format, c.inserted, plus(c.erased, author), c.formatted, c.old));
            }
        }
        edit(after);
        return text.size();
    }

    int format(int at, int n, int format) {
        range(at, n);
        argument(format >= 0 && format <= 255);
        List<Char> after = new ArrayList<>(text);
        int changed = 0;
        for (int i = at; i < at + n; i++) {
            after.set(i, formatted(text.get(i), format));
            changed += after.get(i).format != text.get(i).format ? 1 : 0;
        }
        edit(after);
        return changed;
    }

    private Char formatted(Char c, int format) {
        if (!tracking) {
            return new Char(c.code, format, c.inserted, c.erased, Set.of(), -1);
        }
        if (c.inserted.equals(Set.of(author))) {
            return new Char(c.code, format, c.inserted, c.erased, c.formatted, c.old);
        }
        if (c.formatted.isEmpty() && c.format == format) {
            return c;
        }
        int old = c.formatted.isEmpty() ? c.format : c.old;
        if (old == format) {
            return new Char(c.code, format, c.inserted, c.erased, Set.of(), -1);
        }
        return new Char(c.code, format, c.inserted, c.erased, plus(c.formatted, author), old);
    }

    int accept(int at, int n, int authors) {
        return judge(at, n, authors, true);
    }

    int reject(int at, int n, int authors) {
        return judge(at, n, authors, false);
    }

    private int judge(int at, int n, int authors, boolean accepting) {
        range(at, n);
        argument(authors >= 1 && authors <= 255);
        Set<Integer> set = set(authors);
        List<Char> after = new ArrayList<>(text.subList(0, at));
        int changed = 0;
        for (Char c : text.subList(at, at + n)) {
            Char then = accepting ? accepted(c, set) : rejected(c, set);
            if (then == null || !then.mark().equals(c.mark())) {
                changed++;
            }
            if (then != null) {
                after.add(then);
            }
        }
        after.addAll(text.subList(at + n, text.size()));
        edit(after);
        return changed;
    }

    private static Char accepted(Char c, Set<Integer> set) {
        if (meet(c.erased, set)) {
            return null;
        }
        Set<Integer> inserted = meet(c.inserted, set) ? Set.of() : c.inserted;
        boolean f = meet(c.formatted, set);
        return new Char(c.code, c.format, inserted, c.erased, f ? Set.of() : c.formatted, f ? -1 : c.old);
    }

    private static Char rejected(Char c, Set<Integer> set) {
        if (meet(c.inserted, set)) {
            return null;
        }
        Set<Integer> erased = new HashSet<>(c.erased);
        erased.removeAll(set);
        boolean f = meet(c.formatted, set);
        return new Char(c.code, f ? c.old : c.format, c.inserted, erased, f ? Set.of() : c.formatted, f ? -1 : c.old);
    }

    void open() {
        state(!isOpen);
        isOpen = true;
        atOpen = text;
        openEdits = 0;
        openWeight = 0;
    }

    int close() {
        state(isOpen);
        isOpen = false;
        if (openEdits > 0) {
            end(new Group(atOpen, text, openEdits, openWeight));
        }
        return openEdits;
    }

    int undo() {
        state(!isOpen && !done.isEmpty());
        Group g = done.remove(done.size() - 1);
        undone.add(g);
        text = g.before;
        return g.edits;
    }

    int redo() {
        state(!isOpen && !undone.isEmpty());
        Group g = undone.remove(undone.size() - 1);
        done.add(g);
        text = g.behind;
        return g.edits;
    }

    int length(int view) {
        return view < 0 || view > 2 ? -1 : places(view).size();
    }

    int seen(int view, int i, int what) {
        argument(view >= 0 && view <= 2 && what >= 0 && what <= 2);
        List<Integer> places = places(view);
        index(i >= 0 && i < places.size());
        Char c = text.get(places.get(i));
        Char then = view == 0 ? c : view == 1 ? accepted(c, set(255)) : rejected(c, set(255));
        return what == 0 ? c.code : what == 1 ? then.format : places.get(i);
    }

    private List<Integer> places(int view) {
        List<Integer> places = new ArrayList<>();
        for (int i = 0; i < text.size(); i++) {
            Char c = text.get(i);
            Char then = view == 0 ? c : view == 1 ? accepted(c, set(255)) : rejected(c, set(255));
            if (then != null) {
                places.add(i);
            }
        }
        return places;
    }

    int mark(int at, int what) {
        index(at >= 0 && at < text.size());
        argument(what >= 0 && what <= 3);
        Char c = text.get(at);
        return what == 0 ? bits(c.inserted) : what == 1 ? bits(c.erased) : what == 2 ? bits(c.formatted) : c.old;
    }

    int next(int at, int authors) {
        index(at >= 0 && at <= text.size());
        argument(authors >= 1 && authors <= 255);
        Set<Integer> set = set(authors);
        for (int i = at; i < text.size(); i++) {
            Char c = text.get(i);
            if (meet(c.inserted, set) || meet(c.erased, set) || meet(c.formatted, set)) {
                return i;
            }
        }
        return -1;
    }

    int count(int what) {
        switch (what) {
            case 0:
                return runs();
            case 1:
                Set<Object> marks = new HashSet<>();
                text.stream().filter(c -> !c.isPlain()).forEach(c -> marks.add(c.mark()));
                return marks.size();
            case 2:
                return done.size();
            case 3:
                return undone.size();
            case 4:
                return done.stream().mapToInt(Group::weight).sum();
            case 5:
                return undone.stream().mapToInt(Group::weight).sum();
            case 6:
                return isOpen ? 1 : 0;
            default:
                return -1;
        }
    }

    private int runs() {
        int runs = 0;
        int i = 0;
        while (i < text.size()) {
            int end = i;
            while (end < text.size() && text.get(end).mark().equals(text.get(i).mark())) {
                end++;
            }
            runs += text.get(i).isPlain() ? 0 : 1;
            i = end;
        }
        return runs;
    }

    private void edit(List<Char> after) {
        if (after.equals(text)) {
            return;
        }
        int weight = weight(text, after);
        undone.clear();
        if (isOpen) {
            openEdits++;
            openWeight += weight;
            text = after;
        } else {
            List<Char> before = text;
            text = after;
            end(new Group(before, after, 1, weight));
        }
    }

    private static int weight(List<Char> before, List<Char> after) {
        List<Char> a = new ArrayList<>(before);
        List<Char> b = new ArrayList<>(after);
        while (!a.isEmpty() && !b.isEmpty() && a.get(0).equals(b.get(0))) {
            a.remove(0);
            b.remove(0);
        }
        while (!a.isEmpty() && !b.isEmpty() && a.get(a.size() - 1).equals(b.get(b.size() - 1))) {
            a.remove(a.size() - 1);
            b.remove(b.size() - 1);
        }
        return a.size() + b.size();
    }

    private void end(Group g) {
        done.add(g);
        while (count(2) > 40 || count(4) > 3000) {
            done.remove(0);
        }
    }

    private void range(int at, int n) {
        index(n >= 0 && at >= 0 && (long) at + n <= text.size());
    }

    private static boolean meet(Set<Integer> a, Set<Integer> b) {
        return a.stream().anyMatch(b::contains);
    }

    private static Set<Integer> plus(Set<Integer> set, int author) {
        Set<Integer> more = new HashSet<>(set);
        more.add(author);
        return more;
    }

    private static Set<Integer> set(int bits) {
        Set<Integer> set = new HashSet<>();
        for (int a = 0; a < 8; a++) {
            if ((bits & (1 << a)) != 0) {
                set.add(a);
            }
        }
        return set;
    }

    private static int bits(Set<Integer> set) {
        return set.stream().mapToInt(a -> 1 << a).sum();
    }

    private static void index(boolean right) {
        if (!right) {
            throw new IndexOutOfBoundsException();
        }
    }

    private static void argument(boolean right) {
        if (!right) {
            throw new IllegalArgumentException();
        }
    }

    private static void state(boolean right) {
        if (!right) {
            throw new IllegalStateException();
        }
    }
}
