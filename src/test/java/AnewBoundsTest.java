/** Section 4: held rows, the log, marks, and what is done anew, at their bounds. */
public final class AnewBoundsTest {
    private static final Class<?> INDEX = IndexOutOfBoundsException.class;
    private static final Class<?> STATE = IllegalStateException.class;

    private AnewBoundsTest() {
    }

    public static void main(String[] args) {
        releasedWithoutChecks();
        releasedToAFullStream();
        releasedIntoAWindowThatIsGone();
        releasedIntoItsOwnWindowAlone();
        stepsBehindARelease();
        discardedRowIsGone();
        heldRowsMoveUp();
        releaseAndDiscardWhileStopped();
        entriesOfTheLog();
        logOf200Pushes();
        logOf200Releases();
        logOf200Discards();
        logOf200Goes();
        refusedCallsMakeNoEntry();
        eightMarks();
        placesOfMarks();
        backToTheFirstAndLastMark();
        backKeepsTheMarkItself();
        backDoesTheLogAnew();
        backMakesRoomInTheLog();
        backSkipsInTheSameWay();
        compileLeavesTheLogAlone();
        replayOfAnEmptyLog();
        replayOfAllSteps();
        replayKeepsMarks();
        skippedForItsName();
        skippedForItsColumns();
        skippedWhileStopped();
        skippedGo();
        skippedForItsPlace();
        skippedEntriesStay();
        entriesHaveTheirOwnTimes();
        deskWithoutRows();
        changedPlaces();
        changedByARowOfZeros();
        changedByColumns();
        changedByNames();
        changedSinceTheProgramOfNow();
        takenSinceWithoutRows();
        takenByTheSourcesOfNow();
        Due.end();
    }

    private static void releasedWithoutChecks() {
        Due.sentence("If its reason is a check, its stream takes it without checks");
        StreamDesk desk = Feed.desk("source s(a) check s: a else hold check s: a > 5 else stop check s: 0 else drop step k = keep s where 1");
        Feed.push(desk, 0, 3, 0);
        Due.equal("release", desk.release(0), 2);
        Rows.equal(desk, 0, new long[] {3, 0});
        Rows.equal(desk, 1, new long[] {3, 0});
        Due.equal("held rows", desk.count(5), 0);
        Due.no("stopped", desk.isStopped());
        Due.equal("broken", desk.broken(0) * 100 + desk.broken(1) * 10 + desk.broken(2), 100);
    }

    private static void releasedToAFullStream() {
        Due.sentence("its stream takes it (or it is lost, if there are 200 rows)");
        for (int rows : new int[] {198, 199, 200}) {
            StreamDesk desk = Feed.desk("source s(a) step k = keep s where a > 1 step m = merge s, k check m: a <> 1 else hold"
                    + " check m: a <> 5 else drop step n = keep m where 1");
            Feed.push(desk, 0, 0, 1);
            for (int i = 0; i < rows / 2; i++) {
                Feed.push(desk, 0, 0, 2);
            }
            if (rows % 2 > 0) {
                Feed.push(desk, 0, 0, 0);
            }
            Due.equal("rows", desk.rows(2), rows);
            Due.equal("release with " + rows + " rows", desk.release(0), rows < 200 ? 2 : 0);
            Due.equal("rows", desk.rows(2), Math.min(200, rows + 1));
            Due.equal("rows of the next step", desk.rows(3), Math.min(200, rows + 1));
            Due.equal("lost", desk.lost(), rows < 200 ? 0 : 1);
            Due.equal("held rows", desk.count(5), 0);
        }
    }

    private static void releasedIntoAWindowThatIsGone() {
        Due.sentence("if it is -1, it goes into its window all the same (a window that is gone begins anew, closed), and the stream"
                + " would get the row of the window at once");
        for (String late : new String[] {"", " late 5", " late 1000"}) {
            StreamDesk desk = Feed.desk("source s(k, a) step w = window s by k every 10" + late + " (c = count, x = sum a)");
            Feed.push(desk, 0, 1, 7, 100);
            Feed.push(desk, 0, 2000, 8, 0);
            Feed.push(desk, 0, 9, 7, 3);
            Feed.push(desk, 0, 0, 7, 4);
            Due.equal("held rows", desk.count(5), 2);
            Due.equal("release", desk.release(1), 1);
            Due.equal("closed windows: gone in (c)", desk.windows(1, true), 0);
            Due.equal("release", desk.release(0), 1);
            Rows.equal(desk, 1, new long[] {10, 7, 0, 1, 100}, new long[] {10, 7, 0, 1, 4}, new long[] {10, 7, 0, 1, 3});
            Due.equal("open windows", desk.windows(1, false), 1);
            Due.equal("held rows", desk.count(5), 0);
        }
    }

    private static void releasedIntoItsOwnWindowAlone() {
        Due.sentence("it goes into its window all the same: other windows stay as they are");
        StreamDesk desk = Feed.desk("source s(k) step w = window s by k every 10 late 5 (c = count)");
        Feed.push(desk, 0, 24, 7);
        Feed.push(desk, 0, 9, 7);
        Feed.push(desk, 0, 19, 7);
        Rows.equal(desk, 1, new long[] {20, 7, 10, 1});
        Due.equal("windows", desk.windows(1, true) * 10 + desk.windows(1, false), 11);
        Due.equal("release", desk.release(0), 1);
        Due.equal("windows", desk.windows(1, true) * 10 + desk.windows(1, false), 11);
        Due.equal("push into the closed one", Feed.push(desk, 0, 19, 7), 2);
        Rows.equal(desk, 1, new long[] {20, 7, 10, 1}, new long[] {10, 7, 0, 1}, new long[] {20, 7, 10, 2});
    }

    private static void stepsBehindARelease() {
        Due.sentence("Then all steps are done as in a round.");
        StreamDesk desk = Feed.desk("source s(k) delay 100 step m = merge s, s check m: k <> 5 else hold"
                + " step w = window m by k every 10 (c = count) step x = keep w where 1 step f = first m by k within 0");
        Feed.push(desk, 0, 3, 5);
        Due.equal("held rows", desk.count(5), 2);
        Due.equal("release: m and f", desk.release(0), 2);
        Due.equal("release: m", desk.release(0), 1);
        Due.equal("open windows", desk.windows(2, false), 1);
        Due.equal("push", Feed.push(desk, 0, 110, 6), 1 + 2 + 2 + 1);
        Rows.equal(desk, 3, new long[] {10, 5, 0, 2});
    }

    private static void discardedRowIsGone() {
        Due.sentence("A held row can be discarded, or released: it is held no more.");
        StreamDesk desk = Feed.desk("source s(a) check s: a else hold step k = keep s where 1");
        Feed.push(desk, 0, 3, 0);
        Due.equal("discard", desk.discard(0), 0);
        Due.equal("held rows", desk.count(5), 0);
        Due.equal("rows", desk.rows(0) + desk.rows(1), 0);
        Due.equal("lost", desk.lost(), 0);
        Due.thrown(desk, "discard of what is gone", INDEX, () -> desk.discard(0));
        Due.thrown(desk, "release of what is gone", INDEX, () -> desk.release(0));
    }

    private static void heldRowsMoveUp() {
        Due.sentence("held: a held row, by its place, from 0");
        for (int place : new int[] {0, 1, 2, 3}) {
            for (int what = 0; what < 2; what++) {
                StreamDesk desk = Feed.desk("source s(a, b) check s: a else hold");
                for (int i = 0; i < 4; i++) {
                    Feed.push(desk, 0, i, 0, i);
                }
                Due.equal("discard or release", what == 0 ? desk.discard(place) : desk.release(place), what);
                for (int i = 0; i < 3; i++) {
                    int old = i < place ? i : i + 1;
                    Rows.heldEqual(desk, i, 0, 0, old, 0, old);
                }
                Due.thrown(desk, "held(3, 0)", INDEX, () -> desk.held(3, 0));
                Feed.push(desk, 0, 9, 0, 9);
                Rows.heldEqual(desk, 3, 0, 0, 9, 0, 9);
            }
        }
    }

    private static void releaseAndDiscardWhileStopped() {
        Due.sentence("While the desk is stopped, nothing can be pushed: held rows can be released and discarded");
        StreamDesk desk = Feed.desk("source s(a) step m = merge s, s check m: a else stop step k = keep m where 1");
        Feed.push(desk, 0, 0, 0);
        Due.equal("release", desk.release(0), 2);
        Due.yes("stopped behind release", desk.isStopped());
        Due.equal("discard", desk.discard(0), 0);
        Due.yes("stopped behind discard", desk.isStopped());
        Due.equal("go", desk.go(), 0);
    }

    private static void entriesOfTheLog() {
        Due.sentence("The log has an entry for each push, release, discard and go that was done");
        StreamDesk desk = Feed.desk("source s(a) check s: a else stop check s: a <> 9 else drop");
        Due.equal("entries at first", desk.count(3), 0);
        Feed.push(desk, 0, 0, 1);
        Due.equal("entries behind push", desk.count(3), 1);
        Feed.push(desk, 0, 0, 0);
        Feed.pushRefused(desk, 0, 0, 1);
        Due.equal("entries behind a push that is held", desk.count(3), 2);
        desk.go();
        Due.equal("entries behind go", desk.count(3), 3);
        desk.forget();
        Feed.push(desk, 0, 0, 9);
        Due.equal("entries behind a push that is dropped", desk.count(3), 4);
        desk.release(0);
        Due.equal("entries behind release", desk.count(3), 5);
        Feed.push(desk, 0, 0, 0);
        desk.discard(0);
        Due.equal("entries behind discard", desk.count(3), 7);
        desk.mark();
        desk.replay();
        desk.forget();
        desk.digest();
        Feed.compile(desk, "source s(a)");
        Due.equal("entries behind all other calls", desk.count(3), 7);
    }

    /** Pushes up to so many entries, the first one held by a check that stops if it is to. */
    private static StreamDesk logged(int entries, boolean isStopped) {
        StreamDesk desk = Feed.desk("source s(a) check s: a <> 1 else hold check s: a <> 2 else stop");
        Feed.push(desk, 0, 0, 1);
        for (int i = 1; i < entries - 1; i++) {
            Feed.push(desk, 0, i, 5);
        }
        Feed.push(desk, 0, 777, isStopped ? 2 : 5);
        Due.equal("entries", desk.count(3), entries);
        return desk;
    }

    private static void logOf200Pushes() {
        Due.sentence("at most 200; push: Throws IllegalStateException if .. the log has 200 entries");
        StreamDesk desk = logged(198, false);
        Due.equal("push: the 199th entry", Feed.push(desk, 0, 0, 5), 1);
        Due.equal("push: the 200th entry", Feed.push(desk, 0, 1000, 6), 1);
        Due.equal("entries", desk.count(3), 200);
        desk.value(7);
        Due.thrown(desk, "push: a 201st entry", STATE, () -> desk.push(0, 0));
        Due.thrown(desk, "push: a 201st entry", STATE, () -> desk.push(0, 1000000));
        Due.equal("entries", desk.count(3), 200);
        Due.equal("numbers that were appended", desk.forget(), 1);
        Due.equal("watermark", desk.watermark(0), 1000);
        long digest = desk.digest();
        Due.equal("replay", desk.replay(), 0);
        Due.equal("digest behind replay", desk.digest(), digest);
        Due.equal("the last row", desk.cell(0, desk.rows(0) - 1, 0), 6);
    }

    private static void logOf200Releases() {
        Due.sentence("at most 200; release: Throws IllegalStateException if the log has 200 entries");
        for (int entries : new int[] {198, 199, 200}) {
            StreamDesk desk = logged(entries, false);
            if (entries < 200) {
                Due.equal("release", desk.release(0), 1);
                Due.equal("entries", desk.count(3), entries + 1);
            } else {
                Due.thrown(desk, "release", STATE, () -> desk.release(0));
                Due.thrown(desk, "release of no row", INDEX, () -> desk.release(1));
                Due.equal("held rows", desk.count(5), 1);
            }
        }
    }

    private static void logOf200Discards() {
        Due.sentence("at most 200; discard: Throws IllegalStateException if the log has 200 entries");
        for (int entries : new int[] {198, 199, 200}) {
            StreamDesk desk = logged(entries, false);
            if (entries < 200) {
                Due.equal("discard", desk.discard(0), 0);
                Due.equal("entries", desk.count(3), entries + 1);
            } else {
                Due.thrown(desk, "discard", STATE, () -> desk.discard(0));
                Due.thrown(desk, "discard of no row", INDEX, () -> desk.discard(1));
                Due.equal("held rows", desk.count(5), 1);
            }
        }
    }

    private static void logOf200Goes() {
        Due.sentence("at most 200; go: Throws IllegalStateException if it is not stopped, or the log has 200 entries");
        for (int entries : new int[] {198, 199, 200}) {
            StreamDesk desk = logged(entries, true);
            if (entries < 200) {
                Due.equal("go", desk.go(), 2);
                Due.equal("entries", desk.count(3), entries + 1);
                Due.thrown(desk, "go again", STATE, desk::go);
            } else {
                Due.thrown(desk, "go", STATE, desk::go);
                Due.yes("stopped", desk.isStopped());
            }
            StreamDesk running = logged(entries, false);
            Due.thrown(running, "go of a desk that is not stopped", STATE, running::go);
        }
    }

    private static void refusedCallsMakeNoEntry() {
        Due.sentence("The log has an entry for each push, .. that was done: a refused call has none");
        StreamDesk desk = Feed.desk("source s(a) step k = keep s where 1 check s: a else stop");
        Due.thrown(desk, "push without a number", IllegalArgumentException.class, () -> desk.push(0, 0));
        desk.value(1);
        Due.thrown(desk, "push to a step", IllegalArgumentException.class, () -> desk.push(1, 0));
        Due.thrown(desk, "push to nothing", INDEX, () -> desk.push(2, 0));
        Due.thrown(desk, "release", INDEX, () -> desk.release(0));
        Due.thrown(desk, "discard", INDEX, () -> desk.discard(0));
        Due.thrown(desk, "go", STATE, desk::go);
        Due.equal("entries", desk.count(3), 0);
        Due.equal("replay", desk.replay(), 0);
        Due.equal("push", desk.push(0, 0), 2);
        Due.equal("entries", desk.count(3), 1);
    }

    private static void eightMarks() {
        Due.sentence("mark: Throws IllegalStateException if there is no program, or there are 8 marks");
        StreamDesk none = new StreamDesk();
        Due.thrown(none, "mark without a program", STATE, none::mark);
        Feed.compile(none, "source s(a");
        Due.thrown(none, "mark behind a wrong program", STATE, none::mark);
        StreamDesk desk = Feed.desk("source s(a)");
        for (int k = 0; k < 8; k++) {
            Due.equal("mark", desk.mark(), k);
            Due.equal("marks", desk.count(4), k + 1);
            Feed.push(desk, 0, k, 1);
        }
        Due.thrown(desk, "a ninth mark", STATE, desk::mark);
        Due.equal("marks", desk.count(4), 8);
        Due.equal("back to the eighth", desk.back(7), 1);
        Due.equal("marks", desk.count(4), 8);
        Due.thrown(desk, "a ninth mark", STATE, desk::mark);
        Due.equal("back to the seventh", desk.back(6), 1);
        Due.equal("marks", desk.count(4), 7);
        Due.equal("the eighth mark again", desk.mark(), 7);
    }

    private static void placesOfMarks() {
        Due.sentence("Sets a mark behind the latest entry of the log. A mark is a place in the log;"
                + " marks are numbered from 0 in the order in which they were set.");
        StreamDesk desk = Feed.desk("source s(a)");
        Due.equal("mark behind no entry", desk.mark(), 0);
        Due.equal("mark at the same place", desk.mark(), 1);
        Feed.push(desk, 0, 1, 1);
        Due.equal("mark behind the first entry", desk.mark(), 2);
        for (int i = 2; i <= 200; i++) {
            Feed.push(desk, 0, i, i);
        }
        Due.equal("mark behind the last entry", desk.mark(), 3);
        Due.equal("back to the last", desk.back(3), 0);
        Due.equal("rows", desk.rows(0), 200);
        Due.equal("back to the first entry", desk.back(2), 199);
        Due.equal("rows", desk.rows(0), 1);
        Due.equal("marks", desk.count(4), 3);
        Due.equal("back to the place ahead of it", desk.back(1), 1);
        Due.equal("marks", desk.count(4), 2);
        Due.equal("back to the same place", desk.back(0), 0);
        Due.equal("marks", desk.count(4), 1);
        Due.equal("entries", desk.count(3), 0);
    }

    private static void backToTheFirstAndLastMark() {
        Due.sentence("back: Throws IndexOutOfBoundsException if there is no such mark");
        StreamDesk desk = new StreamDesk();
        Due.thrown(desk, "back without marks", INDEX, () -> desk.back(0));
        Feed.compile(desk, "source s(a)");
        Due.thrown(desk, "back without marks", INDEX, () -> desk.back(0));
        for (int i = 0; i < 3; i++) {
            Feed.push(desk, 0, i, i);
            desk.mark();
        }
        for (int k : new int[] {Integer.MIN_VALUE, -1, 3, 8, Integer.MAX_VALUE}) {
            Due.thrown(desk, "back(" + k + ")", INDEX, () -> desk.back(k));
        }
        Due.equal("marks", desk.count(4), 3);
        Due.equal("back(2)", desk.back(2), 0);
        Due.equal("back(0)", desk.back(0), 2);
        Due.thrown(desk, "back(1)", INDEX, () -> desk.back(1));
        Feed.compile(desk, "source s(a)");
        Due.thrown(desk, "back behind compile", INDEX, () -> desk.back(0));
    }

    private static void backKeepsTheMarkItself() {
        Due.sentence("what is behind it is gone from the log, and the marks with greater numbers are gone");
        for (int k = 0; k < 4; k++) {
            StreamDesk desk = Feed.desk("source s(a)");
            for (int i = 0; i < 4; i++) {
                Feed.push(desk, 0, i, i);
                desk.mark();
            }
            Feed.push(desk, 0, 9, 9);
            Due.equal("back(" + k + ")", desk.back(k), 4 - k);
            Due.equal("entries", desk.count(3), k + 1);
            Due.equal("marks", desk.count(4), k + 1);
            Due.equal("rows", desk.rows(0), k + 1);
            Feed.push(desk, 0, 50, 50);
            Due.equal("a new mark", desk.mark(), k + 1);
            Due.equal("back to it", desk.back(k + 1), 0);
            Due.equal("rows", desk.rows(0), k + 2);
            Due.equal("back to the one ahead of it", desk.back(k), 1);
            Due.equal("the last row", desk.cell(0, k, 0), k);
        }
    }

    private static void backDoesTheLogAnew() {
        Due.sentence("back(k) does the log anew up to mark k, from a desk without rows");
        StreamDesk desk = Feed.desk("source s(k) delay 2 check s: k <> 3 else stop check s: k <> 4 else drop"
                + " step w = window s by k every 5 late 3 (c = count) step f = first w by k within 1000");
        long[] digests = new long[6];
        int[][] pushes = {{1, 1}, {6, 2}, {8, 4}, {3, 1}, {17, 3}};
        for (int i = 0; i < 5; i++) {
            desk.mark();
            digests[i] = withoutMarks(desk);
            Feed.push(desk, 0, pushes[i][0], pushes[i][1]);
        }
        Due.yes("stopped", desk.isStopped());
        Due.equal("broken", desk.broken(0) * 10 + desk.broken(1), 11);
        for (int k = 4; k >= 0; k--) {
            Due.equal("back(" + k + ")", desk.back(k), 1);
            Due.equal("digest behind back", withoutMarks(desk), digests[k]);
            Due.no("stopped behind back", desk.isStopped());
            Due.equal("broken behind back", desk.broken(0) * 10 + desk.broken(1), k > 2 ? 1 : 0);
        }
    }

    /** The digest without the number of marks in it. */
    private static long withoutMarks(StreamDesk desk) {
        long power = 1;
        // the held rows, whether it is stopped, and the lost rows stand behind the marks
        int behind = 3;
        for (int s = 0; s < desk.count(0); s++) {
            behind += 2 + desk.rows(s) * (1 + desk.stream(s, 1));
        }
        for (int i = 0; i < desk.count(5); i++) {
            behind += 3 + desk.stream(desk.held(i, 0), 1);
        }
        for (int i = 0; i < behind; i++) {
            power *= 31;
        }
        return desk.digest() - desk.count(4) * power;
    }

    private static void backMakesRoomInTheLog() {
        Due.sentence("what is behind it is gone from the log: there is room for as many other entries");
        StreamDesk desk = logged(199, false);
        desk.mark();
        Feed.push(desk, 0, 5, 5);
        desk.value(5);
        Due.thrown(desk, "push to a full log", STATE, () -> desk.push(0, 5));
        Due.equal("back", desk.back(0), 1);
        Due.equal("entries", desk.count(3), 199);
        Due.equal("push", desk.push(0, 6), 1);
        Due.equal("entries", desk.count(3), 200);
    }

    private static void backSkipsInTheSameWay() {
        Due.sentence("back() skips in the same way.");
        StreamDesk desk = Feed.desk("source s(a) source t(a) check s: a else stop");
        Feed.push(desk, 1, 0, 1);
        Feed.push(desk, 0, 0, 0);
        desk.go();
        desk.release(0);
        Feed.push(desk, 0, 4, 1);
        // without t, and with a check that never stops: t, go and release are skipped
        Feed.compile(desk, "source s(a)");
        desk.mark();
        Feed.push(desk, 0, 5, 2);
        Due.equal("back", desk.back(0), 1);
        Due.equal("entries", desk.count(3), 5);
        Rows.equal(desk, 0, new long[] {0, 0}, new long[] {4, 1});
        Due.equal("taken by what was not skipped", desk.taken(), 1.0);
        Due.equal("back again", desk.back(0), 0);
        Due.equal("rows", desk.rows(0), 2);
    }

    private static void compileLeavesTheLogAlone() {
        Due.sentence("compile() with a right program: the log stays, marks are gone, all streams are without rows, nothing is held,"
                + " and the desk is not stopped.");
        StreamDesk desk = logged(200, true);
        desk.mark();
        Due.equal("compile", Feed.compile(desk, "source s(a) check s: a <> 1 else hold check s: a <> 2 else stop"), 0);
        Due.equal("entries", desk.count(3), 200);
        Due.equal("marks", desk.count(4), 0);
        Due.equal("rows", desk.rows(0), 0);
        Due.equal("held rows", desk.count(5), 0);
        Due.no("stopped", desk.isStopped());
        Due.equal("watermark", desk.watermark(0), -1);
        Due.equal("broken", desk.broken(0) + desk.broken(1), 0);
        desk.value(1);
        Due.thrown(desk, "push to a full log", STATE, () -> desk.push(0, 0));
        Due.equal("replay", desk.replay(), 0);
        Due.yes("stopped behind replay", desk.isStopped());
        Due.equal("rows behind replay", desk.rows(0), 198);
        Due.equal("held rows behind replay", desk.count(5), 2);
    }

    private static void replayOfAnEmptyLog() {
        Due.sentence("Does the whole log anew. Throws IllegalStateException if there is no program");
        StreamDesk desk = new StreamDesk();
        Due.thrown(desk, "replay without a program", STATE, desk::replay);
        Feed.compile(desk, "source s(a, a)");
        Due.thrown(desk, "replay behind a wrong program", STATE, desk::replay);
        Feed.compile(desk, "source s(a)");
        Due.equal("replay of an empty log", desk.replay(), 0);
        Due.equal("entries", desk.count(3), 0);
        Due.equal("taken", desk.taken(), 1.0);
    }

    private static void replayOfAllSteps() {
        Due.sentence("replay() does the whole log anew, from a desk without rows: all steps look at all rows again");
        StreamDesk desk = Feed.desk("source s(k, a) delay 2 source t(k, a) source u(k, b) check s: a <> 5 else hold"
                + " check t: a <> 6 else stop step m = merge s, t step n = merge m, m step j = join m, u on k within 4"
                + " step f = first n by k within 3 step v = make f with c = time step p = pick v (k, c)"
                + " step w = window j by k every 5 late 3 (x = sum a, y = count) step x = keep w where y");
        for (int i = 0; i < 40; i++) {
            Feed.push(desk, i % 3, i + i * i * 7 % 9, i % 2, i % 8 == 7 ? 5 : i);
            if (desk.count(5) > 1) {
                desk.release(1);
            }
        }
        Feed.push(desk, 1, 50, 0, 6);
        Due.yes("stopped", desk.isStopped());
        for (int s = 0; s < 11; s++) {
            Due.yes("rows of " + s, desk.rows(s) > 0);
        }
        desk.mark();
        String before = Look.over(desk);
        for (int i = 0; i < 3; i++) {
            Due.equal("replay", desk.replay(), 0);
            Due.yes("all is as it was behind replay", Look.over(desk).equals(before));
            Due.equal("back", desk.back(0), 0);
            Due.yes("all is as it was behind back", Look.over(desk).equals(before));
        }
    }

    private static void replayKeepsMarks() {
        Due.sentence("compile() with a right program: .. marks are gone; replay() does the whole log anew");
        StreamDesk desk = Feed.desk("source s(a)");
        desk.mark();
        Feed.push(desk, 0, 1, 1);
        desk.mark();
        Feed.push(desk, 0, 2, 2);
        desk.replay();
        Due.equal("marks behind replay", desk.count(4), 2);
        Due.equal("back behind replay", desk.back(1), 1);
        Due.equal("back behind replay", desk.back(0), 1);
        Feed.compile(desk, "source s(a, a)");
        Due.equal("marks behind a wrong program", desk.count(4), 1);
        Feed.compile(desk, "source s(a)");
        Due.equal("marks behind a right program", desk.count(4), 0);
    }

    private static void skippedForItsName() {
        Due.sentence("an entry is skipped, if it is a push to a source of a name that is none");
        StreamDesk desk = Feed.desk("source s(a) source t(a) source abcdefgh(a)");
        for (int source = 0; source < 3; source++) {
            Feed.push(desk, source, source, source);
        }
        Feed.compile(desk, "source u(a) source abcdefgh(a) source s(a) source t(a)");
        Due.equal("replay with all names, numbered otherwise", desk.replay(), 0);
        Rows.equal(desk, 2, new long[] {0, 0});
        Rows.equal(desk, 3, new long[] {1, 1});
        Rows.equal(desk, 1, new long[] {2, 2});
        Feed.compile(desk, "source s(a) source u(a) source abcdefg(a)");
        Due.equal("replay without t and abcdefgh", desk.replay(), 2);
        Feed.compile(desk, "source s(a) step t = keep s where 1 source abcdefgh(a)");
        Due.equal("replay with t as a step", desk.replay(), 1);
        Due.equal("rows of t are those of s", desk.cell(1, 0, 0), 0);
        Feed.compile(desk, "source x(s, t)");
        Due.equal("replay with columns of these names", desk.replay(), 3);
        Due.equal("rows", desk.rows(0), 0);
        Due.equal("watermark", desk.watermark(0), -1);
    }

    private static void skippedForItsColumns() {
        Due.sentence("or has another number of columns");
        StreamDesk desk = Feed.desk("source s(a, b)");
        Feed.push(desk, 0, 3, 1, 2);
        String[] programs = {"source s(a)", "source s(c, d)", "source s(a, b, c)", "source s(a, b, c, d, e, f)"};
        for (int i = 0; i < programs.length; i++) {
            Feed.compile(desk, programs[i]);
            Due.equal("replay with " + programs[i], desk.replay(), i == 1 ? 0 : 1);
            Due.equal("rows", desk.rows(0), i == 1 ? 1 : 0);
            Due.equal("watermark", desk.watermark(0), i == 1 ? 3 : -1);
            Due.equal("taken", desk.taken(), 1.0);
        }
        StreamDesk six = Feed.desk("source s(a, b, c, d, e, f)");
        Feed.push(six, 0, 3, 1, 2, 3, 4, 5, 6);
        Feed.compile(six, "source s(a, b, c, d, e)");
        Due.equal("replay with five columns", six.replay(), 1);
        Feed.compile(six, "source s(f, e, d, c, b, a)");
        Due.equal("replay with six columns", six.replay(), 0);
        Rows.equal(six, 0, new long[] {3, 1, 2, 3, 4, 5, 6});
    }

    private static void skippedWhileStopped() {
        Due.sentence("if it is a push, and the desk is stopped");
        StreamDesk desk = Feed.desk("source s(a) source t(a) check s: a <> 3 else stop");
        for (int a = 1; a <= 5; a++) {
            Feed.push(desk, a % 2, a, a == 3 ? 4 : a);
        }
        Feed.push(desk, 0, 6, 3);
        desk.go();
        Feed.push(desk, 0, 7, 6);
        Feed.compile(desk, "source s(a) source t(a) check s: a <> 2 else stop");
        // the push of 2 stops, four pushes are skipped, the go is done, and the last push
        Due.equal("replay", desk.replay(), 4);
        Rows.equal(desk, 0, new long[] {7, 6});
        Rows.equal(desk, 1, new long[] {1, 1});
        Due.equal("held rows", desk.count(5), 1);
        Due.no("stopped", desk.isStopped());
        Due.equal("watermark of t", desk.watermark(1), 1);
        Due.equal("taken", desk.taken(), 2.0 / 3.0);
    }

    private static void skippedGo() {
        Due.sentence("if it is a go, and it is not");
        StreamDesk desk = Feed.desk("source s(a) check s: a <> 3 else stop");
        Feed.push(desk, 0, 0, 3);
        desk.go();
        Feed.push(desk, 0, 0, 3);
        desk.go();
        Due.equal("replay with both", desk.replay(), 0);
        Feed.compile(desk, "source s(a) check s: time else stop");
        Due.equal("replay with both", desk.replay(), 0);
        Feed.compile(desk, "source s(a)");
        Due.equal("replay with none", desk.replay(), 2);
        Due.equal("rows", desk.rows(0), 2);
        Feed.compile(desk, "source s(a) check s: a <> 3 else hold");
        Due.equal("replay with none", desk.replay(), 2);
        Due.equal("held rows", desk.count(5), 2);
    }

    private static void skippedForItsPlace() {
        Due.sentence("or if it is a release or discard of a held row that is not there (by its place)");
        for (int what = 0; what < 2; what++) {
            StreamDesk desk = Feed.desk("source s(a) check s: a > 5 else hold");
            for (int a = 0; a < 3; a++) {
                Feed.push(desk, 0, a, a);
            }
            Due.equal("release or discard", what == 0 ? desk.release(2) : desk.discard(2), 1 - what);
            for (int least = 0; least < 4; least++) {
                Feed.compile(desk, "source s(a) check s: a >= " + least + " else hold");
                Due.equal("replay with " + least + " held rows", desk.replay(), least == 3 ? 0 : 1);
                Due.equal("held rows", desk.count(5), least == 3 ? 2 : least);
                Due.equal("rows", desk.rows(0), 3 - least + (least == 3 && what == 0 ? 1 : 0));
            }
            Feed.compile(desk, "source s(a) check s: a < 0 else hold check s: 1 else drop");
            Due.equal("replay: another row at the same place", desk.replay(), 0);
            Rows.heldEqual(desk, 1, 0, 0, 1, 1);
        }
    }

    private static void skippedEntriesStay() {
        Due.sentence("Skipped entries stay in the log.");
        StreamDesk desk = Feed.desk("source s(a) check s: a else stop");
        Feed.push(desk, 0, 0, 0);
        desk.go();
        desk.release(0);
        Feed.push(desk, 0, 9, 0);
        desk.discard(0);
        long digest = desk.digest();
        Feed.compile(desk, "source s(a, b)");
        for (int i = 0; i < 3; i++) {
            Due.equal("replay skips all", desk.replay(), 5);
            Due.equal("entries", desk.count(3), 5);
        }
        Feed.compile(desk, "source s(a) check s: a else stop");
        Due.equal("replay skips none", desk.replay(), 0);
        Due.equal("digest", desk.digest(), digest);
        Due.yes("stopped", desk.isStopped());
        Due.equal("taken", desk.taken(), 0.5);
    }

    private static void entriesHaveTheirOwnTimes() {
        Due.sentence("replay() does the whole log anew: with the times and numbers of then");
        StreamDesk desk = Feed.desk("source s(a, b)");
        long[][] rows = {{0, 1, -1}, {1000000, Long.MAX_VALUE, Long.MIN_VALUE}, {5, 0, 0}};
        for (long[] row : rows) {
            Feed.push(desk, 0, (int) row[0], row[1], row[2]);
        }
        desk.value(77);
        desk.value(78);
        desk.replay();
        Rows.equal(desk, 0, rows);
        Due.equal("numbers that were appended stay", desk.forget(), 2);
        Feed.compile(desk, "source s(b, a) delay 1000 step k = keep s where a < 0");
        desk.replay();
        Rows.equal(desk, 0, rows);
        Rows.equal(desk, 1, rows[0], rows[1]);
        Due.equal("watermark", desk.watermark(0), 999000);
    }

    private static void deskWithoutRows() {
        Due.sentence("A desk without rows also has no lost rows, and checks that were not broken.");
        StreamDesk desk = Feed.desk("source s(a) check s: a else hold");
        desk.mark();
        for (int i = 0; i < 62; i++) {
            Feed.push(desk, 0, 0, 0);
        }
        Due.equal("lost and broken", desk.lost() * 100 + desk.broken(0), 262);
        desk.replay();
        Due.equal("lost and broken behind replay", desk.lost() * 100 + desk.broken(0), 262);
        desk.back(0);
        Due.equal("lost and broken behind back", desk.lost() * 100 + desk.broken(0), 0);
        for (int i = 0; i < 62; i++) {
            Feed.push(desk, 0, 0, 0);
        }
        Feed.compile(desk, "source s(a) check s: a else hold");
        Due.equal("lost and broken behind compile", desk.lost() * 100 + desk.broken(0), 0);
    }

    /** s has the rows (1, 10), (2, 20), (3, 30) by the program ahead of it. */
    private static StreamDesk changing() {
        StreamDesk desk = Feed.desk("source s(a)");
        for (int i = 1; i <= 3; i++) {
            Feed.push(desk, 0, i, 10 * i);
        }
        Feed.compile(desk, "source s(a)");
        return desk;
    }

    private static void changedPlaces() {
        Due.sentence("the number of places at which only one of both has a row, or the times or numbers are not the same");
        int[][] third = {{3, 30, 0}, {2, 30, 1}, {4, 30, 1}, {3, 29, 1}, {3, 31, 1}, {30, 3, 1}};
        for (int[] row : third) {
            StreamDesk desk = changing();
            Due.equal("changed without rows", desk.changed(0), 3);
            Feed.push(desk, 0, 1, 10);
            Due.equal("changed with one row", desk.changed(0), 2);
            Feed.push(desk, 0, 2, 20);
            Due.equal("changed with two rows", desk.changed(0), 1);
            Feed.push(desk, 0, row[0], row[1]);
            Due.equal("changed with a third row " + row[0] + ", " + row[1], desk.changed(0), row[2]);
            Feed.push(desk, 0, 4, 40);
            Due.equal("changed with a fourth row", desk.changed(0), row[2] + 1);
        }
        StreamDesk desk = changing();
        for (int i = 3; i >= 1; i--) {
            Feed.push(desk, 0, i, 10 * i);
        }
        Due.equal("changed in another order", desk.changed(0), 2);
        StreamDesk full = Feed.desk("source s(a, b, c, d, e, f)");
        for (int i = 0; i < 200; i++) {
            Feed.push(full, 0, i, 1, 2, 3, 4, 5, i);
        }
        Feed.compile(full, "source s(a, b, c, d, e, f)");
        Due.equal("changed by 200 rows", full.changed(0), 200);
        full.replay();
        Due.equal("changed by none", full.changed(0), 0);
        Feed.compile(full, "source s(a, b, c, d, e, f) check s: f < 199 else drop");
        full.replay();
        Due.equal("changed by the last row", full.changed(0), 1);
    }

    /** A place without a row is not the same as a row of zeros at time 0. */
    private static void changedByARowOfZeros() {
        Due.sentence("the number of places at which only one of both has a row");
        StreamDesk desk = Feed.desk("source s(a) source t(a)");
        Feed.push(desk, 0, 0, 0);
        Due.equal("changed: the program of now alone has a row", desk.changed(0), 1);
        Feed.compile(desk, "source s(a) source t(a)");
        Due.equal("changed: the program ahead of it alone has a row", desk.changed(0), 1);
        Feed.push(desk, 0, 0, 0);
        Due.equal("changed: both have the row", desk.changed(0), 0);
        Feed.push(desk, 0, 0, 0);
        Due.equal("changed: one row more", desk.changed(0), 1);
        Feed.push(desk, 1, 0, 0);
        Due.equal("changed: one row more", desk.changed(1), 1);
    }

    private static void changedByColumns() {
        Due.sentence("or the times or numbers are not the same: each of the numbers, and how many there are");
        for (int column = -1; column < 6; column++) {
            StreamDesk desk = Feed.desk("source s(a, b, c, d, e, f)");
            Feed.push(desk, 0, 5, 0, 0, 0, 0, 0, 0);
            Feed.compile(desk, "source s(a, b, c, d, e, f)");
            long[] numbers = new long[6];
            if (column >= 0) {
                numbers[column] = 1L << 32;
            }
            Feed.push(desk, 0, 5, numbers);
            Due.equal("changed by column " + column, desk.changed(0), column < 0 ? 0 : 1);
        }
        int[] due = {1, 0, 1};
        for (int columns = 1; columns <= 3; columns++) {
            StreamDesk desk = Feed.desk("source s(a, b)");
            Feed.push(desk, 0, 5, 0, 0);
            Feed.compile(desk, new String[] {"source s(a)", "source s(c, d)", "source s(a, b, c)"}[columns - 1]);
            Feed.push(desk, 0, 5, new long[columns]);
            Due.equal("changed with " + columns + " columns", desk.changed(0), due[columns - 1]);
        }
    }

    private static void changedByNames() {
        Due.sentence("with those that the stream of this name had; none, if there was no such stream");
        StreamDesk desk = Feed.desk("source s(a) source t(a) step u = keep t where 1");
        Feed.push(desk, 0, 1, 1);
        Feed.push(desk, 1, 1, 1);
        Feed.push(desk, 1, 2, 2);
        Due.equal("changed by the first program", desk.changed(0), 1);
        Due.equal("changed by the first program", desk.changed(1), 2);
        Feed.compile(desk, "source u(a) source s(a) source v(a) source tt(a) step t = keep v where 1");
        int[] due = {2, 1, 0, 0, 2};
        for (int s = 0; s < 5; s++) {
            Due.equal("changed(" + s + ")", desk.changed(s), due[s]);
        }
        Feed.push(desk, 2, 1, 1);
        Due.equal("changed of a new stream", desk.changed(2), 1);
        Due.equal("changed of a step that was a source", desk.changed(4), 1);
        Due.thrown(desk, "changed(5)", INDEX, () -> desk.changed(5));
    }

    private static void changedSinceTheProgramOfNow() {
        Due.sentence("those that the stream of this name had when the program of now was compiled (by the program ahead of it)");
        StreamDesk desk = changing();
        Due.equal("a wrong program", Feed.compile(desk, "source s(a, a)"), 5);
        Due.equal("changed behind a wrong program", desk.changed(0), 3);
        desk.replay();
        Due.equal("changed behind replay", desk.changed(0), 0);
        desk.mark();
        Feed.push(desk, 0, 4, 40);
        Due.equal("changed behind push", desk.changed(0), 1);
        desk.back(0);
        Due.equal("changed behind back", desk.changed(0), 0);
        for (int i = 0; i < 5; i++) {
            Feed.compile(desk, "source s(a)");
            Due.equal("changed: the program ahead of it had these", desk.changed(0), i == 0 ? 3 : 0);
        }
        desk.replay();
        Due.equal("changed: the program ahead of it had none", desk.changed(0), 3);
        Feed.compile(desk, "source t(a)");
        Feed.compile(desk, "source s(a)");
        Due.equal("changed: the program ahead of it had no such stream", desk.changed(0), 0);
    }

    private static void takenSinceWithoutRows() {
        Due.sentence("the number of rows that all sources have, divided by the number of pushes that were done (and not skipped)"
                + " since the desk was without rows; 1 if there were none");
        StreamDesk desk = new StreamDesk();
        Due.equal("taken without a program", desk.taken(), 1.0);
        Feed.compile(desk, "source s(a) source t(a) check s: a else hold step m = merge s, t");
        Due.equal("taken without pushes", desk.taken(), 1.0);
        desk.mark();
        Feed.push(desk, 0, 0, 0);
        Due.equal("taken", desk.taken(), 0.0);
        Feed.push(desk, 1, 0, 0);
        Due.equal("taken", desk.taken(), 0.5);
        Feed.push(desk, 0, 0, 1);
        Due.equal("taken", desk.taken(), 2.0 / 3.0);
        desk.release(0);
        Due.equal("taken behind release", desk.taken(), 1.0);
        desk.mark();
        Feed.push(desk, 0, 0, 0);
        Due.equal("taken", desk.taken(), 0.75);
        desk.back(1);
        Due.equal("taken behind back", desk.taken(), 1.0);
        desk.back(0);
        Due.equal("taken behind back to the beginning", desk.taken(), 1.0);
        Feed.push(desk, 0, 0, 0);
        Due.equal("taken", desk.taken(), 0.0);
        Feed.compile(desk, "source s(a, b)");
        desk.replay();
        Due.equal("taken, all pushes skipped", desk.taken(), 1.0);
    }

    private static void takenByTheSourcesOfNow() {
        Due.sentence("the number of rows that all sources have: those of one stream, and of twelve");
        StringBuilder twelve = new StringBuilder();
        for (int i = 0; i < 12; i++) {
            twelve.append("source s").append(i).append("(a) ");
        }
        twelve.append("check s0: a else drop");
        StreamDesk desk = Feed.desk(twelve.toString());
        for (int round = 0; round < 4; round++) {
            for (int s = 0; s < 12; s++) {
                Feed.push(desk, s, 0, 1);
            }
            Due.equal("taken by twelve", desk.taken(), 1.0);
            Feed.push(desk, 0, 0, 0);
            Due.equal("taken by twelve", desk.taken(), 12.0 / 13.0);
            Feed.compile(desk, "source s0(a) check s0: a else drop");
            Feed.push(desk, 0, 0, 1);
            Feed.push(desk, 0, 0, 0);
            Due.equal("taken by one", desk.taken(), 0.5);
            Feed.compile(desk, twelve.toString());
        }
    }
}
