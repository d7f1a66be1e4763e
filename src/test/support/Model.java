import java.util.ArrayList;
import java.util.HashSet;
import java.util.List;
import java.util.Set;

/**
 * The document done in the plainest way, to be compared with the program: trees instead of code,
 * lists instead of tables, and a window's totals reckoned over all of its rows.
 */
final class Model {
    static final class Row {
        final long time;
        final long[] numbers;

        Row(long time, long[] numbers) {
            this.time = time;
            this.numbers = numbers;
        }

        boolean same(Row that) {
            return time == that.time && java.util.Arrays.equals(numbers, that.numbers);
        }
    }

    static final class Held {
        int stream;
        int reason;
        Row row;
    }

    static final class Window {
        long key;
        long begin;
        boolean closed;
        final List<Row> rows = new ArrayList<>();
    }

    static final class Entry {
        String what;
        String source;
        Row row;
        int place;
    }

    /** A stream at work. */
    static final class Flow {
        final Syntax.Stream is;
        final List<Row> rows = new ArrayList<>();
        long greatest = -1;
        long watermark = -1;
        final int[] seen = new int[2];
        final List<Row> given = new ArrayList<>();
        List<Window> windows = new ArrayList<>();

        Flow(Syntax.Stream is) {
            this.is = is;
        }
    }

    private final StringBuilder tape = new StringBuilder();
    private int errorAt = -1;
    private Syntax.Program program = new Syntax.Program();
    private final List<Long> next = new ArrayList<>();
    private final List<Entry> log = new ArrayList<>();
    private List<Integer> marks = new ArrayList<>();
    private List<Flow> before = new ArrayList<>();

    private List<Flow> flows = new ArrayList<>();
    private List<Held> held = new ArrayList<>();
    private int[] broken = new int[0];
    private int lost;
    private boolean stopped;
    private int pushes;
    private int took;

    private void withoutRows() {
        flows = new ArrayList<>();
        for (Syntax.Stream s : program.streams) {
            flows.add(new Flow(s));
        }
        held = new ArrayList<>();
        broken = new int[program.checks.size()];
        lost = 0;
        stopped = false;
        pushes = 0;
    }

    // ---- programs

    long feed(int... numbers) {
        if (tape.length() + 20 > 1500) {
            throw new IllegalStateException();
        }
        for (int n : numbers) {
            tape.append((char) (n >>> 24)).append((char) (n >>> 16 & 255)).append((char) (n >>> 8 & 255))
                    .append((char) (n & 255));
        }
        return tape.length();
    }

    long trim(int n) {
        if (n < 0 || n > tape.length()) {
            throw new IllegalArgumentException();
        }
        tape.setLength(n);
        return n;
    }

    long compile() {
        String text = tape.toString();
        tape.setLength(0);
        try {
            Syntax.Program p = Syntax.compile(text);
            errorAt = -1;
            before = flows;
            program = p;
            marks = new ArrayList<>();
            withoutRows();
            return 0;
        } catch (Syntax.Mistake m) {
            errorAt = m.position;
            return m.error;
        }
    }

    long errorAt() {
        return errorAt;
    }

    long find() {
        String name = tape.toString();
        tape.setLength(0);
        return numberOf(flows, name);
    }

    private static int numberOf(List<Flow> flows, String name) {
        for (int i = 0; i < flows.size(); i++) {
            if (flows.get(i).is.name.equals(name)) {
                return i;
            }
        }
        return -1;
    }

    long count(int what) {
        switch (what) {
            case 0: return program.streams.size();
            case 1: return program.checks.size();
            case 2: return tape.length();
            case 3: return log.size();
            case 4: return marks.size();
            case 5: return held.size();
            default: throw new IndexOutOfBoundsException();
        }
    }

    private Flow flow(int stream) {
        if (stream < 0 || stream >= flows.size()) {
            throw new IndexOutOfBoundsException();
        }
        return flows.get(stream);
    }

    long stream(int stream, int what) {
        Flow f = flow(stream);
        if (what == 0) {
            return List.of("source", "keep", "make", "pick", "merge", "join", "first", "window").indexOf(f.is.work);
        }
        if (what == 1) {
            return f.is.columns.size();
        }
        if (what == 2 || what == 3) {
            return f.is.inputs.size() > what - 2 ? f.is.inputs.get(what - 2) : -1;
        }
        throw new IndexOutOfBoundsException();
    }

    // ---- rows

    long value(long v) {
        if (next.size() == 6) {
            throw new IllegalStateException();
        }
        next.add(v);
        return next.size();
    }

    long forget() {
        int n = next.size();
        next.clear();
        return n;
    }

    long push(int source, int time) {
        Flow f = flow(source);
        if (!f.is.work.equals("source") || time < 0 || time > 1000000 || next.size() != f.is.columns.size()) {
            throw new IllegalArgumentException();
        }
        if (stopped || log.size() >= 200) {
            throw new IllegalStateException();
        }
        Entry e = new Entry();
        e.what = "push";
        e.source = f.is.name;
        long[] numbers = new long[next.size()];
        for (int i = 0; i < numbers.length; i++) {
            numbers[i] = next.get(i);
        }
        e.row = new Row(time, numbers);
        next.clear();
        log.add(e);
        perform(e);
        return took;
    }

    long rows(int stream) {
        return flow(stream).rows.size();
    }

    long cell(int stream, int row, int column) {
        Flow f = flow(stream);
        if (row < 0 || row >= f.rows.size() || column < -1 || column >= f.is.columns.size()) {
            throw new IndexOutOfBoundsException();
        }
        return column == -1 ? f.rows.get(row).time : f.rows.get(row).numbers[column];
    }

    long watermark(int stream) {
        return flow(stream).watermark;
    }

    long windows(int stream, boolean isClosed) {
        int n = 0;
        for (Window w : flow(stream).windows) {
            n += w.closed == isClosed ? 1 : 0;
        }
        return n;
    }

    // ---- held rows

    private Held heldAt(int place) {
        if (place < 0 || place >= held.size()) {
            throw new IndexOutOfBoundsException();
        }
        return held.get(place);
    }

    long held(int place, int what) {
        Held h = heldAt(place);
        if (what < 0 || what > 2) {
            throw new IndexOutOfBoundsException();
        }
        return what == 0 ? h.stream : what == 1 ? h.reason : h.row.time;
    }

    long heldValue(int place, int column) {
        Held h = heldAt(place);
        if (column < 0 || column >= h.row.numbers.length) {
            throw new IndexOutOfBoundsException();
        }
        return h.row.numbers[column];
    }

    long release(int place) {
        heldAt(place);
        return placed("release", place);
    }

    long discard(int place) {
        int reason = heldAt(place).reason;
        placed("discard", place);
        return reason;
    }

    private long placed(String what, int place) {
        if (log.size() >= 200) {
            throw new IllegalStateException();
        }
        Entry e = new Entry();
        e.what = what;
        e.place = place;
        log.add(e);
        perform(e);
        return took;
    }

    long broken(int check) {
        if (check < 0 || check >= broken.length) {
            throw new IndexOutOfBoundsException();
        }
        return broken[check];
    }

    long lost() {
        return lost;
    }

    boolean isStopped() {
        return stopped;
    }

    long go() {
        if (!stopped) {
            throw new IllegalStateException();
        }
        placed("go", 0);
        return held.size();
    }

    // ---- marks, and doing it anew

    long mark() {
        if (flows.isEmpty() || marks.size() == 8) {
            throw new IllegalStateException();
        }
        marks.add(log.size());
        return marks.size() - 1;
    }

    long back(int mark) {
        if (mark < 0 || mark >= marks.size()) {
            throw new IndexOutOfBoundsException();
        }
        int gone = 0;
        while (log.size() > marks.get(mark)) {
            log.remove(log.size() - 1);
            gone++;
        }
        while (marks.size() > mark + 1) {
            marks.remove(marks.size() - 1);
        }
        anew();
        return gone;
    }

    long replay() {
        if (flows.isEmpty()) {
            throw new IllegalStateException();
        }
        return anew();
    }

    private long anew() {
        withoutRows();
        int skipped = 0;
        for (Entry e : log) {
            if (isSkipped(e)) {
                skipped++;
            } else {
                perform(e);
            }
        }
        return skipped;
    }

    long changed(int stream) {
        Flow f = flow(stream);
        int old = numberOf(before, f.is.name);
        List<Row> was = old < 0 ? new ArrayList<>() : before.get(old).rows;
        int n = 0;
        for (int i = 0; i < f.rows.size() || i < was.size(); i++) {
            if (i >= f.rows.size() || i >= was.size() || !f.rows.get(i).same(was.get(i))) {
                n++;
            }
        }
        return n;
    }

    double taken() {
        double n = 0;
        for (Flow f : flows) {
            n += f.is.work.equals("source") ? f.rows.size() : 0;
        }
        return pushes == 0 ? 1 : n / pushes;
    }

    long digest() {
        List<Long> all = new ArrayList<>();
        for (int what = 0; what < 6; what++) {
            all.add(count(what));
        }
        all.add(stopped ? 1L : 0L);
        all.add((long) lost);
        for (Flow f : flows) {
            all.add(f.watermark);
            all.add((long) f.rows.size());
            for (Row r : f.rows) {
                all.add(r.time);
                for (long n : r.numbers) {
                    all.add(n);
                }
            }
        }
        for (int i = 0; i < held.size(); i++) {
            for (int what = 0; what < 3; what++) {
                all.add(held(i, what));
            }
            for (long n : held.get(i).row.numbers) {
                all.add(n);
            }
        }
        long d = 281;
        for (long x : all) {
            d = d * 31 + x;
        }
        return d;
    }

    // ---- the desk at work

    private boolean isSkipped(Entry e) {
        switch (e.what) {
            case "push":
                int s = numberOf(flows, e.source);
                return s < 0 || !flows.get(s).is.work.equals("source")
                        || flows.get(s).is.columns.size() != e.row.numbers.length || stopped;
            case "go":
                return !stopped;
            default:
                return e.place >= held.size();
        }
    }

    private void perform(Entry e) {
        took = 0;
        switch (e.what) {
            case "push":
                pushes++;
                Flow f = flows.get(numberOf(flows, e.source));
                f.greatest = Math.max(f.greatest, e.row.time);
                f.watermark = Math.max(-1, f.greatest - f.is.delay);
                wouldGet(f, e.row);
                steps();
                break;
            case "release":
                Held h = held.remove(e.place);
                Flow to = flows.get(h.stream);
                if (h.reason >= 0) {
                    takes(to, h.row);
                } else {
                    intoWindow(to, h.row, true);
                }
                steps();
                break;
            case "discard":
                held.remove(e.place);
                break;
            default:
                stopped = false;
                break;
        }
    }

    private void wouldGet(Flow f, Row row) {
        for (int i = 0; i < program.checks.size(); i++) {
            Syntax.Check check = program.checks.get(i);
            if (flows.get(check.stream) == f && check.test.of(row) == 0) {
                broken[i]++;
                if (!check.fate.equals("drop")) {
                    holds(f, i, row);
                }
                if (check.fate.equals("stop")) {
                    stopped = true;
                }
                return;
            }
        }
        takes(f, row);
    }

    private void holds(Flow f, int reason, Row row) {
        if (held.size() == 60) {
            lost++;
            return;
        }
        Held h = new Held();
        h.stream = flows.indexOf(f);
        h.reason = reason;
        h.row = row;
        held.add(h);
    }

    private void takes(Flow f, Row row) {
        if (f.rows.size() == 200) {
            lost++;
        } else {
            f.rows.add(row);
            took++;
        }
    }

    private void steps() {
        for (Flow f : flows) {
            if (f.is.work.equals("source")) {
                continue;
            }
            for (int input = 0; input < f.is.inputs.size(); input++) {
                Flow from = flows.get(f.is.inputs.get(input));
                while (f.seen[input] < from.rows.size()) {
                    looksAt(f, input, from.rows.get(f.seen[input]));
                    f.seen[input]++;
                }
            }
            f.watermark = Long.MAX_VALUE;
            for (int input : f.is.inputs) {
                f.watermark = Math.min(f.watermark, flows.get(input).watermark);
            }
            if (f.is.work.equals("window")) {
                closes(f);
            }
        }
    }

    private void looksAt(Flow f, int input, Row row) {
        switch (f.is.work) {
            case "keep":
                if (f.is.tests.get(0).of(row) != 0) {
                    wouldGet(f, row);
                }
                break;
            case "make":
                long[] more = java.util.Arrays.copyOf(row.numbers, f.is.columns.size());
                for (int i = 0; i < f.is.tests.size(); i++) {
                    more[row.numbers.length + i] = f.is.tests.get(i).of(row);
                }
                wouldGet(f, new Row(row.time, more));
                break;
            case "pick":
                long[] picked = new long[f.is.columns.size()];
                List<String> from = flows.get(f.is.inputs.get(0)).is.columns;
                for (int i = 0; i < picked.length; i++) {
                    picked[i] = row.numbers[from.indexOf(f.is.columns.get(i))];
                }
                wouldGet(f, new Row(row.time, picked));
                break;
            case "merge":
                wouldGet(f, row);
                break;
            case "join":
                joins(f, input, row);
                break;
            case "first":
                int k = keyOf(f, 0);
                for (Row r : f.given) {
                    if (r.numbers[k] == row.numbers[k] && Math.abs(r.time - row.time) <= f.is.span) {
                        return;
                    }
                }
                f.given.add(row);
                wouldGet(f, row);
                break;
            default:
                intoWindow(f, row, false);
                break;
        }
    }

    private int keyOf(Flow f, int input) {
        return flows.get(f.is.inputs.get(input)).is.columns.indexOf(f.is.key);
    }

    private void joins(Flow f, int input, Row row) {
        List<Row> others = flows.get(f.is.inputs.get(1 - input)).rows;
        if (input == 0) {
            others = others.subList(0, f.seen[1]);
        }
        int ks = keyOf(f, 0);
        int kt = keyOf(f, 1);
        for (Row other : new ArrayList<>(others)) {
            Row s = input == 0 ? row : other;
            Row t = input == 0 ? other : row;
            if (s.numbers[ks] == t.numbers[kt] && Math.abs(s.time - t.time) <= f.is.span) {
                long[] both = java.util.Arrays.copyOf(s.numbers, f.is.columns.size());
                int at = s.numbers.length;
                for (int i = 0; i < t.numbers.length; i++) {
                    if (i != kt) {
                        both[at] = t.numbers[i];
                        at++;
                    }
                }
                wouldGet(f, new Row(Math.max(s.time, t.time), both));
            }
        }
    }

    private void intoWindow(Flow f, Row row, boolean isReleased) {
        long begin = row.time / f.is.span * f.is.span;
        long end = begin + f.is.span;
        boolean atOnce = f.watermark >= end || isReleased;
        if (!isReleased && f.watermark >= end + f.is.late) {
            holds(f, -1, row);
            return;
        }
        long key = row.numbers[keyOf(f, 0)];
        Window window = null;
        for (Window w : f.windows) {
            if (w.key == key && w.begin == begin) {
                window = w;
            }
        }
        if (window == null) {
            if (f.windows.size() == 60) {
                lost++;
                return;
            }
            window = new Window();
            window.key = key;
            window.begin = begin;
            window.closed = end <= f.watermark;
            f.windows.add(window);
        }
        window.rows.add(row);
        if (atOnce) {
            wouldGet(f, rowOf(f, window));
        }
    }

    private static Row rowOf(Flow f, Window w) {
        long[] numbers = new long[f.is.columns.size()];
        numbers[0] = w.key;
        numbers[1] = w.begin;
        for (int i = 0; i < f.is.totals.size(); i++) {
            long total = 0;
            Row first = w.rows.get(0);
            Syntax.Node e = f.is.tests.get(i);
            switch (f.is.totals.get(i)) {
                case "count":
                    total = w.rows.size();
                    break;
                case "sum":
                    for (Row r : w.rows) {
                        total += e.of(r);
                    }
                    break;
                case "least":
                    total = e.of(first);
                    for (Row r : w.rows) {
                        total = Math.min(total, e.of(r));
                    }
                    break;
                case "most":
                    total = e.of(first);
                    for (Row r : w.rows) {
                        total = Math.max(total, e.of(r));
                    }
                    break;
                default:
                    total = e.of(w.rows.get(w.rows.size() - 1));
                    break;
            }
            numbers[2 + i] = total;
        }
        return new Row(w.begin + f.is.span, numbers);
    }

    private void closes(Flow f) {
        List<Window> due = new ArrayList<>();
        for (Window w : f.windows) {
            if (!w.closed && w.begin + f.is.span <= f.watermark) {
                due.add(w);
            }
        }
        due.sort((a, b) -> a.begin != b.begin ? Long.compare(a.begin, b.begin) : Long.compare(a.key, b.key));
        for (Window w : due) {
            w.closed = true;
            wouldGet(f, rowOf(f, w));
        }
        Set<Window> gone = new HashSet<>();
        for (Window w : f.windows) {
            if (w.begin + f.is.span + f.is.late <= f.watermark) {
                gone.add(w);
            }
        }
        f.windows.removeAll(gone);
    }
}
