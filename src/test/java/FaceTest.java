/** Promises 1 to 29, one by one: ordinary answers, edges and wrong inputs. */
public final class FaceTest {
    private static final Class<?> INDEX = IndexOutOfBoundsException.class;
    private static final Class<?> ARGUMENT = IllegalArgumentException.class;
    private static final Class<?> STATE = IllegalStateException.class;

    private FaceTest() {
    }

    public static void main(String[] args) {
        newObject();
        feed();
        trim();
        compileKeepsProgram();
        compileBeginsAnew();
        find();
        count();
        stream();
        valueAndForget();
        push();
        pushOrder();
        rowsAndCell();
        watermark();
        windows();
        held();
        release();
        discard();
        broken();
        lost();
        stoppedAndGo();
        fullLog();
        mark();
        back();
        replay();
        changed();
        taken();
        digest();
        Due.end();
    }

    /** Promise 1. */
    private static void newObject() {
        StreamDesk desk = new StreamDesk();
        for (int what = 0; what <= 5; what++) {
            Due.equal("count of a new desk", desk.count(what), 0);
        }
        Due.equal("errorAt of a new desk", desk.errorAt(), -1);
        Due.equal("forget of a new desk", desk.forget(), 0);
        Due.equal("lost of a new desk", desk.lost(), 0);
        Due.no("isStopped of a new desk", desk.isStopped());
        Due.equal("taken of a new desk", desk.taken(), 1.0);
        Due.equal("find of a new desk", desk.find(), -1);
        Due.thrown(desk, "rows(0)", INDEX, () -> desk.rows(0));
        Due.thrown(desk, "push(0, 0)", INDEX, () -> desk.push(0, 0));
    }

    /** Promise 2. */
    private static void feed() {
        StreamDesk desk = new StreamDesk();
        Due.equal("feed", desk.feed(0x736f7572, 0x63652073, 0x28612920, 0x20202020, 0x20202020), 20);
        Due.equal("compile of what was fed", desk.compile(), 0);
        for (int i = 1; i <= 75; i++) {
            Due.equal("feed", desk.feed(0x20202020, 0x20202020, 0x20202020, 0x20202020, 0x20202020), 20 * i);
        }
        Due.thrown(desk, "feed to a full tape", STATE, () -> desk.feed(1, 2, 3, 4, 5));
        desk.trim(1481);
        Due.thrown(desk, "feed to 1481 bytes", STATE, () -> desk.feed(1, 2, 3, 4, 5));
        desk.trim(1480);
        Due.equal("feed to 1480 bytes", desk.feed(0x20202020, 0x20202020, 0x20202020, 0x20202020, -1), 1500);
        Due.equal("compile of 1500 bytes", desk.compile(), 1);
        Due.equal("errorAt byte 255", desk.errorAt(), 1496);
    }

    /** Promise 3. */
    private static void trim() {
        StreamDesk desk = new StreamDesk();
        Due.equal("trim(0) of nothing", desk.trim(0), 0);
        Due.thrown(desk, "trim(1) of nothing", ARGUMENT, () -> desk.trim(1));
        Feed.text(desk, "source s(a) trash");
        Due.thrown(desk, "trim(18)", ARGUMENT, () -> desk.trim(18));
        Due.thrown(desk, "trim(-1)", ARGUMENT, () -> desk.trim(-1));
        Due.thrown(desk, "trim(least)", ARGUMENT, () -> desk.trim(Integer.MIN_VALUE));
        Due.equal("trim(17)", desk.trim(17), 17);
        Due.equal("trim(11)", desk.trim(11), 11);
        Due.equal("bytes behind trim", desk.count(2), 11);
        Due.equal("compile behind trim", desk.compile(), 0);
    }

    /** Promises 4 and 5: a wrong program changes nothing but the tape and the position. */
    private static void compileKeepsProgram() {
        StreamDesk desk = Feed.desk("source s(a)");
        Feed.push(desk, 0, 5, 8);
        desk.mark();
        Due.equal("compile of a wrong program", Feed.compile(desk, "source t(b) check t: c else drop"), 2);
        Due.equal("errorAt of a wrong program", desk.errorAt(), 21);
        Due.equal("rows behind a wrong program", desk.rows(0), 1);
        Due.equal("marks behind a wrong program", desk.count(4), 1);
        Due.equal("changed behind a wrong program", desk.changed(0), 1);
        Feed.text(desk, "s");
        Due.equal("find behind a wrong program", desk.find(), 0);
        Due.equal("errorAt stays", desk.errorAt(), 21);
        Due.equal("compile of nothing", desk.compile(), 1);
        Due.equal("errorAt of nothing", desk.errorAt(), 0);
        Due.equal("compile of a right one", Feed.compile(desk, "source t(b)"), 0);
        Due.equal("errorAt of a right one", desk.errorAt(), -1);
    }

    /** Promise 4: what a right program leaves, and what it does not. */
    private static void compileBeginsAnew() {
        String program = "source s(a) delay 1 check s: a > 0 else stop step w = window s by a every 5 late 9 (n = count)";
        StreamDesk desk = Feed.desk(program);
        Feed.push(desk, 0, 3, 1);
        Feed.push(desk, 0, 9, 1);
        Feed.push(desk, 0, 9, 0);
        desk.mark();
        desk.value(4);
        Due.yes("stopped ahead of compile", desk.isStopped());
        Due.equal("compile", Feed.compile(desk, program), 0);
        Due.equal("entries", desk.count(3), 3);
        Due.equal("marks", desk.count(4), 0);
        Due.equal("held rows", desk.count(5), 0);
        Due.no("stopped", desk.isStopped());
        Due.equal("broken", desk.broken(0), 0);
        Due.equal("rows", desk.rows(0) + desk.rows(1), 0);
        Due.equal("watermark of the source", desk.watermark(0), -1);
        Due.equal("watermark of the window", desk.watermark(1), -1);
        Due.equal("windows", desk.windows(1, true) + desk.windows(1, false), 0);
        Due.equal("taken", desk.taken(), 1.0);
        Due.equal("numbers of the next row", desk.forget(), 1);
    }

    /** Promise 6. */
    private static void find() {
        StreamDesk desk = Feed.desk("source s(a) source abcdefgh(a) step t1 = keep s where 1");
        Due.equal("find of nothing", desk.find(), -1);
        String[] names = {"s", "abcdefgh", "t1", "t", "abcdefg", "abcdefghi", "a", "s ", " s", "step", "\u0000s", "s\u0000",
            "S", "t1t1t1t1t1t1t1t1"};
        int[] due = {0, 1, 2, -1, -1, -1, -1, -1, -1, -1, -1, -1, -1, -1};
        for (int i = 0; i < names.length; i++) {
            Feed.text(desk, names[i]);
            Due.equal("find " + names[i], desk.find(), due[i]);
            Due.equal("bytes behind find", desk.count(2), 0);
        }
    }

    /** Promise 7. */
    private static void count() {
        StreamDesk desk = Feed.desk("source s(a) source t(a) check s: a else hold check t: a else drop check s: 1 else drop");
        Feed.push(desk, 0, 1, 0);
        Feed.push(desk, 1, 1, 0);
        Feed.push(desk, 1, 1, 1);
        Feed.push(desk, 0, 1, 0);
        desk.mark();
        Feed.text(desk, "1234567");
        int[] due = {2, 3, 7, 4, 1, 2};
        for (int what = 0; what <= 5; what++) {
            Due.equal("count " + what, desk.count(what), due[what]);
        }
        Due.thrown(desk, "count(-1)", INDEX, () -> desk.count(-1));
        Due.thrown(desk, "count(6)", INDEX, () -> desk.count(6));
    }

    /** Promise 8. */
    private static void stream() {
        StreamDesk desk = Feed.desk("source s(k, a) source t(k, b) step c = keep t where 1 step d = make s with x = 1, y = 2"
                + " step e = pick d (y, x, k) step f = merge c, t step g = join d, f on k within 1"
                + " step h = first g by k within 2 step i = window h by b every 3 (n = count)");
        int[][] due = {{0, 2, -1, -1}, {0, 2, -1, -1}, {1, 2, 1, -1}, {2, 4, 0, -1}, {3, 3, 3, -1}, {4, 2, 2, 1},
            {5, 5, 3, 5}, {6, 5, 6, -1}, {7, 3, 7, -1}};
        for (int s = 0; s < due.length; s++) {
            for (int what = 0; what < 4; what++) {
                Due.equal("stream " + s + " " + what, desk.stream(s, what), due[s][what]);
            }
        }
        Due.thrown(desk, "stream(9, 0)", INDEX, () -> desk.stream(9, 0));
        Due.thrown(desk, "stream(-1, 0)", INDEX, () -> desk.stream(-1, 0));
        Due.thrown(desk, "stream(0, 4)", INDEX, () -> desk.stream(0, 4));
        Due.thrown(desk, "stream(0, -1)", INDEX, () -> desk.stream(0, -1));
    }

    /** Promises 9 and 10. */
    private static void valueAndForget() {
        StreamDesk desk = new StreamDesk();
        for (int i = 1; i <= 6; i++) {
            Due.equal("value", desk.value(i), i);
        }
        Due.thrown(desk, "the 7th value", STATE, () -> desk.value(7));
        Due.equal("forget", desk.forget(), 6);
        Due.equal("forget", desk.forget(), 0);
        Due.equal("value behind forget", desk.value(9), 1);
    }

    /** Promise 11. */
    private static void push() {
        StreamDesk desk = Feed.desk("source s(a, b) step t = keep s where a step u = merge s, t");
        Due.equal("push", Feed.push(desk, 0, 0, 1, 2), 4);
        Due.equal("the numbers are gone", desk.forget(), 0);
        Due.equal("push", Feed.push(desk, 0, 1000000, 0, Long.MIN_VALUE), 2);
        Due.equal("number", desk.cell(2, 2, 1), Long.MIN_VALUE);
        Due.equal("time", desk.cell(2, 2, -1), 1000000);
        Due.thrown(desk, "push without numbers", ARGUMENT, () -> desk.push(0, 0));
        desk.value(7);
        Due.thrown(desk, "push of one number", ARGUMENT, () -> desk.push(0, 0));
        desk.value(8);
        Due.thrown(desk, "push at -1", ARGUMENT, () -> desk.push(0, -1));
        Due.thrown(desk, "push at 1000001", ARGUMENT, () -> desk.push(0, 1000001));
        Due.thrown(desk, "push to a step", ARGUMENT, () -> desk.push(1, 0));
        Due.thrown(desk, "push to stream 3", INDEX, () -> desk.push(3, 0));
        Due.thrown(desk, "push to stream -1", INDEX, () -> desk.push(-1, 0));
        desk.value(9);
        Due.thrown(desk, "push of three numbers", ARGUMENT, () -> desk.push(0, 0));
        Due.equal("the numbers stay", desk.forget(), 3);
        Due.equal("entries", desk.count(3), 2);
    }

    /** Promise 11: which exception is first. */
    private static void pushOrder() {
        StreamDesk desk = Feed.desk("source s(a) check s: a else stop");
        Feed.push(desk, 0, 0, 0);
        Due.thrown(desk, "push of too few numbers to a stopped desk", ARGUMENT, () -> desk.push(0, 0));
        desk.value(1);
        Due.thrown(desk, "push to a stopped desk", STATE, () -> desk.push(0, 0));
        Due.thrown(desk, "push at -1 to a stopped desk", ARGUMENT, () -> desk.push(0, -1));
        Due.thrown(desk, "push at -1 to no stream", INDEX, () -> desk.push(1, -1));
        Due.equal("the numbers stay", desk.forget(), 1);
    }

    /** Promises 12 and 13. */
    private static void rowsAndCell() {
        StreamDesk desk = Feed.desk("source s(a, b) step t = keep s where a > 2");
        Feed.push(desk, 0, 7, 1, 2);
        Feed.push(desk, 0, 5, 3, 4);
        Due.equal("rows(0)", desk.rows(0), 2);
        Due.equal("rows(1)", desk.rows(1), 1);
        Due.equal("cell(0, 0, -1)", desk.cell(0, 0, -1), 7);
        Due.equal("cell(0, 0, 1)", desk.cell(0, 0, 1), 2);
        Due.equal("cell(1, 0, 0)", desk.cell(1, 0, 0), 3);
        Due.equal("cell(1, 0, -1)", desk.cell(1, 0, -1), 5);
        Due.thrown(desk, "rows(2)", INDEX, () -> desk.rows(2));
        Due.thrown(desk, "rows(-1)", INDEX, () -> desk.rows(-1));
        Due.thrown(desk, "cell(2, 0, 0)", INDEX, () -> desk.cell(2, 0, 0));
        Due.thrown(desk, "cell(1, 1, 0)", INDEX, () -> desk.cell(1, 1, 0));
        Due.thrown(desk, "cell(1, -1, 0)", INDEX, () -> desk.cell(1, -1, 0));
        Due.thrown(desk, "cell(1, 0, 2)", INDEX, () -> desk.cell(1, 0, 2));
        Due.thrown(desk, "cell(1, 0, -2)", INDEX, () -> desk.cell(1, 0, -2));
    }

    /** Promise 14. */
    private static void watermark() {
        StreamDesk desk = Feed.desk("source s(a) delay 5 source t(a) check s: a else drop step m = merge s, t"
                + " step k = keep s where 0");
        Due.equal("watermark at first", desk.watermark(0), -1);
        Feed.push(desk, 0, 3, 1);
        Due.equal("watermark, at least -1", desk.watermark(0), -1);
        Feed.push(desk, 0, 20, 0);
        Due.equal("watermark, though the row is dropped", desk.watermark(0), 15);
        Due.equal("watermark of keep", desk.watermark(3), 15);
        Due.equal("watermark of merge", desk.watermark(2), -1);
        Feed.push(desk, 0, 10, 1);
        Due.equal("watermark never falls", desk.watermark(0), 15);
        Feed.push(desk, 1, 9, 1);
        Due.equal("watermark without a delay", desk.watermark(1), 9);
        Due.equal("watermark of merge", desk.watermark(2), 9);
        Feed.push(desk, 1, 30, 1);
        Due.equal("watermark of merge", desk.watermark(2), 15);
        Due.thrown(desk, "watermark(4)", INDEX, () -> desk.watermark(4));
        Due.thrown(desk, "watermark(-1)", INDEX, () -> desk.watermark(-1));
    }

    /** Promise 15. */
    private static void windows() {
        StreamDesk desk = Feed.desk("source s(a) step w = window s by a every 10 late 10 (n = count)");
        Feed.push(desk, 0, 3, 1);
        Feed.push(desk, 0, 3, 2);
        Feed.push(desk, 0, 4, 2);
        Due.equal("open windows", desk.windows(1, false), 2);
        Due.equal("closed windows", desk.windows(1, true), 0);
        Feed.push(desk, 0, 10, 2);
        Due.equal("open windows", desk.windows(1, false), 1);
        Due.equal("closed windows", desk.windows(1, true), 2);
        Feed.push(desk, 0, 20, 2);
        Due.equal("open windows", desk.windows(1, false), 1);
        Due.equal("closed windows", desk.windows(1, true), 1);
        Due.equal("windows of a source", desk.windows(0, false) + desk.windows(0, true), 0);
        Due.thrown(desk, "windows(2)", INDEX, () -> desk.windows(2, true));
        Due.thrown(desk, "windows(-1)", INDEX, () -> desk.windows(-1, false));
    }

    /** Promises 16 and 17. */
    private static void held() {
        StreamDesk desk = Feed.desk("source s(a, b, c) check s: 1 else drop check s: b else hold"
                + " step w = window s by b every 5 (n = count)");
        Feed.push(desk, 0, 20, 1, 2, 3);
        Feed.push(desk, 0, 30, 4, 0, 6);
        Feed.push(desk, 0, 7, 8, 9, 10);
        long[][] due = {{0, 1, 30}, {1, -1, 7}};
        long[][] numbers = {{4, 0, 6}, {8, 9, 10}};
        for (int i = 0; i < 2; i++) {
            for (int what = 0; what < 3; what++) {
                Due.equal("held(" + i + ", " + what + ")", desk.held(i, what), due[i][what]);
                Due.equal("heldValue(" + i + ", " + what + ")", desk.heldValue(i, what), numbers[i][what]);
            }
        }
        Due.thrown(desk, "held(2, 0)", INDEX, () -> desk.held(2, 0));
        Due.thrown(desk, "held(-1, 0)", INDEX, () -> desk.held(-1, 0));
        Due.thrown(desk, "held(0, 3)", INDEX, () -> desk.held(0, 3));
        Due.thrown(desk, "held(0, -1)", INDEX, () -> desk.held(0, -1));
        Due.thrown(desk, "heldValue(2, 0)", INDEX, () -> desk.heldValue(2, 0));
        Due.thrown(desk, "heldValue(-1, 0)", INDEX, () -> desk.heldValue(-1, 0));
        Due.thrown(desk, "heldValue(1, 3)", INDEX, () -> desk.heldValue(1, 3));
        Due.thrown(desk, "heldValue(1, -1)", INDEX, () -> desk.heldValue(1, -1));
    }

    /** Promise 18. */
    private static void release() {
        StreamDesk desk = Feed.desk("source s(a) check s: a > 0 else hold check s: a <> 0 else drop step t = keep s where 1"
                + " check t: a else stop");
        Feed.push(desk, 0, 4, 0);
        Feed.push(desk, 0, 5, -1);
        Due.equal("held rows", desk.count(5), 2);
        Due.thrown(desk, "release(2)", INDEX, () -> desk.release(2));
        Due.thrown(desk, "release(-1)", INDEX, () -> desk.release(-1));
        Due.equal("release: taken without checks, but not by the next stream", desk.release(0), 1);
        Due.equal("time of the released row", desk.cell(0, 0, -1), 4);
        Due.equal("held rows", desk.count(5), 2);
        Due.equal("the row behind it comes first", desk.held(0, 2), 5);
        Due.yes("stopped by a row that came of it", desk.isStopped());
        Due.equal("release, though stopped", desk.release(0), 2);
        Due.equal("entries", desk.count(3), 4);
        Due.equal("broken of the checks that were passed by", desk.broken(1), 0);
    }

    /** Promise 19. */
    private static void discard() {
        StreamDesk desk = Feed.desk("source s(a) check s: 1 else drop check s: a else hold"
                + " step w = window s by a every 5 (n = count)");
        Feed.push(desk, 0, 9, 0);
        Feed.push(desk, 0, 1, 1);
        Due.thrown(desk, "discard(2)", INDEX, () -> desk.discard(2));
        Due.thrown(desk, "discard(-1)", INDEX, () -> desk.discard(-1));
        Due.equal("discard of a late row", desk.discard(1), -1);
        Due.equal("discard of a broken row", desk.discard(0), 1);
        Due.equal("held rows", desk.count(5), 0);
        Due.equal("entries", desk.count(3), 4);
        Due.equal("rows", desk.rows(0), 1);
        Due.equal("lost", desk.lost(), 0);
    }

    /** Promise 20. */
    private static void broken() {
        StreamDesk desk = Feed.desk("source s(a) check s: a < 5 else drop check s: a < 3 else hold check s: 0 else drop");
        for (int a = 0; a < 8; a++) {
            Feed.push(desk, 0, 0, a);
        }
        Due.equal("broken(0)", desk.broken(0), 3);
        Due.equal("broken(1)", desk.broken(1), 2);
        Due.equal("broken(2)", desk.broken(2), 3);
        Due.thrown(desk, "broken(3)", INDEX, () -> desk.broken(3));
        Due.thrown(desk, "broken(-1)", INDEX, () -> desk.broken(-1));
        desk.replay();
        Due.equal("broken(1) behind replay", desk.broken(1), 2);
    }

    /** Promise 21. */
    private static void lost() {
        StreamDesk desk = Feed.desk("source s(a) check s: a else hold");
        for (int i = 0; i < 63; i++) {
            Due.equal("lost", desk.lost(), Math.max(0, i - 60));
            Feed.push(desk, 0, 0, 0);
        }
        Due.equal("lost", desk.lost(), 3);
        Due.equal("held rows", desk.count(5), 60);
        Due.equal("broken", desk.broken(0), 63);
        desk.replay();
        Due.equal("lost behind replay", desk.lost(), 3);
        desk.mark();
        Feed.push(desk, 0, 0, 0);
        desk.back(0);
        Due.equal("lost behind back", desk.lost(), 3);
    }

    /** Promises 22 and 23. */
    private static void stoppedAndGo() {
        StreamDesk desk = Feed.desk("source s(a) check s: a else stop step t = keep s where 1 check t: a > 1 else stop");
        Due.thrown(desk, "go of a desk that is not stopped", STATE, desk::go);
        Feed.push(desk, 0, 0, 0);
        Due.yes("isStopped", desk.isStopped());
        Due.equal("go", desk.go(), 1);
        Due.no("isStopped", desk.isStopped());
        Due.equal("entries", desk.count(3), 2);
        Feed.push(desk, 0, 0, 1);
        Due.yes("isStopped", desk.isStopped());
        Due.equal("go", desk.go(), 2);
        Due.thrown(desk, "go", STATE, desk::go);
    }

    /** Promises 11, 18, 19 and 23: the log has at most 200 entries. */
    private static void fullLog() {
        StreamDesk desk = Feed.desk("source s(a) check s: a else stop");
        Feed.push(desk, 0, 0, 0);
        desk.go();
        for (int i = 2; i < 199; i++) {
            Feed.push(desk, 0, 0, 1);
        }
        Feed.push(desk, 0, 0, 0);
        Due.equal("entries", desk.count(3), 200);
        Due.thrown(desk, "go with a full log", STATE, desk::go);
        Due.thrown(desk, "release with a full log", STATE, () -> desk.release(0));
        Due.thrown(desk, "discard with a full log", STATE, () -> desk.discard(0));
        Due.thrown(desk, "release(2) with a full log", INDEX, () -> desk.release(2));
        Due.thrown(desk, "discard(2) with a full log", INDEX, () -> desk.discard(2));
        Due.equal("mark with a full log", desk.mark(), 0);
        Due.equal("replay of a full log", desk.replay(), 0);
        Feed.compile(desk, "source s(a)");
        desk.value(1);
        Due.thrown(desk, "push with a full log", STATE, () -> desk.push(0, 0));
        Due.thrown(desk, "push at -1 with a full log", ARGUMENT, () -> desk.push(0, -1));
        Due.equal("replay: the go is skipped", desk.replay(), 1);
        Due.equal("rows", desk.rows(0), 199);
    }

    /** Promise 24. */
    private static void mark() {
        StreamDesk none = new StreamDesk();
        Due.thrown(none, "mark without a program", STATE, none::mark);
        StreamDesk desk = Feed.desk("source s(a)");
        for (int i = 0; i < 8; i++) {
            Due.equal("mark", desk.mark(), i);
        }
        Due.thrown(desk, "the 9th mark", STATE, desk::mark);
        Due.equal("marks", desk.count(4), 8);
        desk.back(6);
        Due.equal("mark behind back", desk.mark(), 7);
    }

    /** Promise 25. */
    private static void back() {
        StreamDesk desk = Feed.desk("source s(a)");
        desk.mark();
        Feed.push(desk, 0, 1, 1);
        Feed.push(desk, 0, 2, 2);
        desk.mark();
        desk.mark();
        Feed.push(desk, 0, 3, 3);
        desk.value(5);
        Due.thrown(desk, "back(3)", INDEX, () -> desk.back(3));
        Due.thrown(desk, "back(-1)", INDEX, () -> desk.back(-1));
        Due.equal("back(1)", desk.back(1), 1);
        Due.equal("marks", desk.count(4), 2);
        Due.equal("entries", desk.count(3), 2);
        Due.equal("rows", desk.rows(0), 2);
        Due.equal("watermark", desk.watermark(0), 2);
        Due.equal("back(1) again", desk.back(1), 0);
        Due.equal("back(0)", desk.back(0), 2);
        Due.equal("marks", desk.count(4), 1);
        Due.equal("rows", desk.rows(0), 0);
        Due.equal("watermark", desk.watermark(0), -1);
        Due.equal("numbers of the next row", desk.forget(), 1);
        Feed.compile(desk, "source s(a)");
        Due.thrown(desk, "back behind compile", INDEX, () -> desk.back(0));
    }

    /** Promise 26. */
    private static void replay() {
        StreamDesk none = new StreamDesk();
        Due.thrown(none, "replay without a program", STATE, none::replay);
        StreamDesk desk = Feed.desk("source s(a) source t(a) source u(a) check s: a else hold check t: a else stop");
        Feed.push(desk, 0, 1, 0);
        Feed.push(desk, 0, 2, 3);
        Feed.push(desk, 1, 3, 0);
        desk.go();
        Feed.push(desk, 2, 4, 4);
        desk.release(1);
        desk.discard(0);
        Feed.push(desk, 0, 5, 5);
        desk.mark();
        long digest = desk.digest();
        Due.equal("replay", desk.replay(), 0);
        Due.equal("digest behind replay", desk.digest(), digest);
        // Now t is a step, u has another column, and s, another number now, takes the 0.
        Due.equal("compile", Feed.compile(desk, "source x(a) source s(a) source u(a, b) step t = keep s where 1"), 0);
        Due.equal("replay: t, go, u, release and discard are skipped", desk.replay(), 5);
        Due.equal("entries stay", desk.count(3), 8);
        Due.equal("rows of s", desk.rows(1), 3);
        Due.equal("rows of u", desk.rows(2), 0);
        desk.mark();
        Feed.push(desk, 0, 6, 6);
        Due.equal("back", desk.back(0), 1);
        Due.equal("rows of s", desk.rows(1), 3);
        Due.equal("replay skips the same", desk.replay(), 5);
        // Now the desk is stopped by the 3 of s, and all pushes behind it are skipped up to the go.
        Due.equal("compile", Feed.compile(desk, "source s(a) source t(a) source u(a) check s: a <> 3 else stop"), 0);
        Due.equal("replay: the push of t, and release and discard of the second row", desk.replay(), 2);
        Due.equal("rows of s", desk.rows(0), 2);
        Due.equal("rows of t", desk.rows(1), 0);
        Due.equal("held rows", desk.count(5), 0);
    }

    /** Promise 27. */
    private static void changed() {
        StreamDesk desk = Feed.desk("source s(a) source u(a, b)");
        Feed.push(desk, 0, 1, 1);
        Feed.push(desk, 0, 2, 2);
        Feed.push(desk, 0, 3, 3);
        Feed.push(desk, 1, 3, 3, 4);
        Due.equal("changed by the first program", desk.changed(0), 3);
        Feed.compile(desk, "source v(a) source s(b) source u(a)");
        Due.equal("changed without rows", desk.changed(1), 3);
        Due.equal("changed without rows", desk.changed(2), 1);
        Due.equal("changed of a new stream", desk.changed(0), 0);
        Feed.push(desk, 1, 1, 1);
        Due.equal("changed: the first row is the same", desk.changed(1), 2);
        Feed.push(desk, 1, 3, 2);
        Due.equal("changed: another time", desk.changed(1), 2);
        Feed.push(desk, 1, 3, 4);
        Due.equal("changed: another number", desk.changed(1), 2);
        Feed.push(desk, 1, 4, 4);
        Due.equal("changed: one more row", desk.changed(1), 3);
        Feed.push(desk, 2, 3, 3);
        Due.equal("changed: fewer columns", desk.changed(2), 1);
        Feed.push(desk, 0, 1, 1);
        Due.equal("changed of a new stream", desk.changed(0), 1);
        Due.thrown(desk, "changed(3)", INDEX, () -> desk.changed(3));
        Due.thrown(desk, "changed(-1)", INDEX, () -> desk.changed(-1));
        Due.equal("a wrong program", Feed.compile(desk, "source"), 1);
        Due.equal("changed behind a wrong program", desk.changed(1), 3);
        desk.replay();
        Due.equal("changed behind replay: the old three rows come first", desk.changed(1), 4);
        Feed.compile(desk, "source s(a)");
        Due.equal("changed: only the program ahead counts", desk.changed(0), 7);
    }

    /** Promise 28. */
    private static void taken() {
        StreamDesk desk = Feed.desk("source s(a) source t(a) check s: a else hold step k = keep s where 1");
        Due.equal("taken without pushes", desk.taken(), 1.0);
        Feed.push(desk, 0, 0, 0);
        Due.equal("taken", desk.taken(), 0.0);
        Feed.push(desk, 0, 0, 1);
        Feed.push(desk, 1, 0, 1);
        Due.equal("taken", desk.taken(), 2.0 / 3.0);
        desk.release(0);
        Due.equal("taken behind release", desk.taken(), 1.0);
        Feed.push(desk, 0, 0, 0);
        desk.discard(0);
        Due.equal("taken behind discard", desk.taken(), 0.75);
        desk.replay();
        Due.equal("taken behind replay", desk.taken(), 0.75);
        Feed.compile(desk, "source s(a) check s: a else drop");
        Due.equal("taken behind compile", desk.taken(), 1.0);
        desk.replay();
        Due.equal("taken: the skipped push counts not", desk.taken(), 1.0 / 3.0);
    }

    /** Promise 29. */
    private static void digest() {
        StreamDesk desk = new StreamDesk();
        Due.equal("digest of a new desk", desk.digest(), mixed(0, 0, 0, 0, 0, 0, 0, 0));
        Feed.compile(desk, "source s(a, b) delay 2 check s: a else stop step t = keep s where b");
        Feed.push(desk, 0, 5, 6, 0);
        Feed.push(desk, 0, 7, 8, -9);
        Feed.push(desk, 0, 4, 0, 3);
        desk.mark();
        Feed.text(desk, "abc");
        Due.equal("digest", desk.digest(), mixed(2, 1, 3, 3, 1, 1, 1, 0, 5, 2, 5, 6, 0, 7, 8, -9, 5, 1, 7, 8, -9, 0, 0, 4, 0, 3));
    }

    private static long mixed(long... numbers) {
        long d = 281;
        for (long x : numbers) {
            d = d * 31 + x;
        }
        return d;
    }
}
