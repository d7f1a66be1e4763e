/** Sections 2 to 4: what becomes of rows in each kind of step, in checks, and when they are late. */
public final class RoundsTest {
    private RoundsTest() {
    }

    public static void main(String[] args) {
        checks();
        heldRowsAreFull();
        streamsAreFull();
        plainSteps();
        mergeOfBoth();
        join();
        joinOfBoth();
        first();
        firstGivesWhatIsDropped();
        windowTotals();
        windowBounds();
        windowOrder();
        lateRows();
        releaseOfLateRow();
        sixtyWindows();
        windowOfWindow();
        stopGoesOnToTheEnd();
        twoObjects();
        Due.end();
    }

    private static void rows(StreamDesk desk, int stream, long[]... want) {
        Rows.equal(desk, stream, want);
    }

    private static long[] row(long... timeAndNumbers) {
        return timeAndNumbers;
    }

    private static void checks() {
        StreamDesk desk = Feed.desk("source s(a) check s: a <> 1 else drop check s: a <> 2 else hold check s: a <> 3 else stop"
                + " check s: time < 10 else drop");
        Due.equal("dropped", Feed.push(desk, 0, 0, 1), 0);
        Due.equal("held", Feed.push(desk, 0, 11, 2), 0);
        Due.equal("taken", Feed.push(desk, 0, 2, 4), 1);
        Due.equal("dropped for its time", Feed.push(desk, 0, 10, 4), 0);
        Due.no("stopped", desk.isStopped());
        Due.equal("stopped", Feed.push(desk, 0, 3, 3), 0);
        Due.yes("stopped", desk.isStopped());
        Due.equal("held rows", desk.count(5), 2);
        Due.equal("reason", desk.held(0, 1), 1);
        Due.equal("reason", desk.held(1, 1), 2);
        rows(desk, 0, row(2, 4));
    }

    private static void heldRowsAreFull() {
        StreamDesk desk = Feed.desk("source s(a) check s: a < 0 else hold check s: a <> -5 else stop");
        for (int i = 0; i < 60; i++) {
            Feed.push(desk, 0, 0, i);
        }
        Due.equal("held rows", desk.count(5), 60);
        Due.equal("lost", desk.lost(), 0);
        Feed.push(desk, 0, 0, 60);
        Due.equal("lost", desk.lost(), 1);
        Feed.push(desk, 0, 0, -5);
        Due.equal("lost", desk.lost(), 2);
        Due.yes("stopped, though the row is lost", desk.isStopped());
        Due.equal("broken", desk.broken(1), 1);
        desk.go();
        desk.discard(10);
        Due.equal("the place is free", desk.heldValue(10, 0), 11);
        Feed.push(desk, 0, 0, 61);
        Due.equal("the new one stands behind the others", desk.heldValue(59, 0), 61);
        Due.equal("lost", desk.lost(), 2);
    }

    private static void streamsAreFull() {
        StreamDesk desk = Feed.desk("source s(a) check s: a else hold step m = merge s, s");
        Feed.push(desk, 0, 0, 0);
        for (int i = 0; i < 100; i++) {
            Due.equal("push", Feed.push(desk, 0, i, 1), 3);
        }
        Due.equal("push: only the source takes it", Feed.push(desk, 0, 100, 1), 1);
        Due.equal("lost", desk.lost(), 2);
        Due.equal("rows", desk.rows(1), 200);
        for (int i = 0; i < 97; i++) {
            Feed.push(desk, 0, 100, 1);
        }
        desk.mark();
        Due.equal("entries", desk.count(3), 199);
        Due.equal("release", desk.release(0), 1);
        Due.equal("rows", desk.rows(0), 199);
        Due.equal("a full log", desk.count(3), 200);
        Feed.compile(desk, "source s(a) check s: a else hold step m = merge s, s step j = merge s, m step h = merge j, s"
                + " check h: a < 2 else drop");
        desk.replay();
        Due.equal("rows of the source", desk.rows(0), 199);
        Due.equal("rows", desk.rows(2), 200);
        Due.equal("rows", desk.rows(3), 200);
        releaseToFullStream();
    }

    /** One push gives 16 rows to p, so that few entries fill it. */
    private static void releaseToFullStream() {
        StreamDesk desk = Feed.desk("source s(a) step m = merge s, s step n = merge m, m step o = merge n, n step p = merge o, o"
                + " check p: a else hold");
        Feed.push(desk, 0, 0, 0);
        Due.equal("held rows", desk.count(5), 16);
        for (int i = 0; i < 13; i++) {
            Feed.push(desk, 0, 0, 1);
        }
        Due.equal("rows", desk.rows(4), 200);
        Due.equal("lost", desk.lost(), 8);
        Due.equal("release to a full stream", desk.release(3), 0);
        Due.equal("lost", desk.lost(), 9);
        Due.equal("held rows", desk.count(5), 15);
    }

    private static void plainSteps() {
        StreamDesk desk = Feed.desk("source s(a, b) step k = keep s where a > b and time > 1 step m = make s with x = a * b,"
                + " y = time - a step p = pick m (y, b) step u = merge p, p");
        Due.equal("push", Feed.push(desk, 0, 1, 5, 2), 5);
        Due.equal("push", Feed.push(desk, 0, 2, 5, 2), 6);
        Due.equal("push", Feed.push(desk, 0, 3, 2, 5), 5);
        rows(desk, 1, row(2, 5, 2));
        rows(desk, 2, row(1, 5, 2, 10, -4), row(2, 5, 2, 10, -3), row(3, 2, 5, 10, 1));
        rows(desk, 3, row(1, -4, 2), row(2, -3, 2), row(3, 1, 5));
        rows(desk, 4, row(1, -4, 2), row(1, -4, 2), row(2, -3, 2), row(2, -3, 2), row(3, 1, 5), row(3, 1, 5));
    }

    /** All new rows of the first input come ahead of all those of the second. */
    private static void mergeOfBoth() {
        StreamDesk desk = Feed.desk("source s(a) step d = make s with n = 1 step e = make s with n = 2 step f = merge d, e"
                + " step g = merge f, f step h = merge e, d");
        Feed.push(desk, 0, 4, 7);
        rows(desk, 4, row(4, 7, 1), row(4, 7, 2), row(4, 7, 1), row(4, 7, 2));
        rows(desk, 5, row(4, 7, 2), row(4, 7, 1));
    }

    private static void join() {
        StreamDesk desk = Feed.desk("source s(a, k) source t(b, k, c) step j = join s, t on k within 2");
        Due.equal("columns", desk.stream(2, 1), 4);
        Due.equal("push", Feed.push(desk, 0, 10, 1, 5), 1);
        Due.equal("push", Feed.push(desk, 1, 12, 2, 5, 3), 2);
        Due.equal("push: too far off", Feed.push(desk, 1, 13, 4, 5, 3), 1);
        Due.equal("push: another number", Feed.push(desk, 1, 10, 4, 6, 3), 1);
        Due.equal("push: too far off", Feed.push(desk, 1, 7, 4, 5, 3), 1);
        Due.equal("push", Feed.push(desk, 1, 8, 9, 5, 3), 2);
        Due.equal("push joins with those of t in their order", Feed.push(desk, 0, 11, 6, 5), 3);
        rows(desk, 2, row(12, 1, 5, 2, 3), row(10, 1, 5, 9, 3), row(12, 6, 5, 2, 3), row(13, 6, 5, 4, 3));
        Due.equal("watermark", desk.watermark(2), 11);
    }

    /** New rows of s go with the rows of t that were looked at before, then those of t with all of s. */
    private static void joinOfBoth() {
        StreamDesk desk = Feed.desk("source q(k, a) step s = pick q (k, a) step t = make q with b = a + 100"
                + " step u = pick t (k, b) step j = join s, u on k within 1000");
        Feed.push(desk, 0, 1, 7, 1);
        Feed.push(desk, 0, 2, 7, 2);
        rows(desk, 4, row(1, 7, 1, 101), row(2, 7, 2, 101), row(2, 7, 1, 102), row(2, 7, 2, 102));
    }

    private static void first() {
        StreamDesk desk = Feed.desk("source s(k, a) step f = first s by k within 3");
        Due.equal("push", Feed.push(desk, 0, 10, 1, 1), 2);
        Due.equal("push: given already", Feed.push(desk, 0, 13, 1, 2), 1);
        Due.equal("push: 14 is 4 off the one that was given", Feed.push(desk, 0, 14, 1, 3), 2);
        Due.equal("push: near to one behind it", Feed.push(desk, 0, 7, 1, 4), 1);
        Due.equal("push: 6 is 4 off", Feed.push(desk, 0, 6, 1, 5), 2);
        Due.equal("push: another number", Feed.push(desk, 0, 10, 2, 6), 2);
        rows(desk, 1, row(10, 1, 1), row(14, 1, 3), row(6, 1, 5), row(10, 2, 6));
    }

    private static void firstGivesWhatIsDropped() {
        StreamDesk desk = Feed.desk("source s(k, a) step f = first s by k within 3 check f: a else drop check f: a > 0 else hold");
        Due.equal("push: dropped", Feed.push(desk, 0, 10, 1, 0), 1);
        Due.equal("push: given already", Feed.push(desk, 0, 11, 1, 5), 1);
        Due.equal("push: held", Feed.push(desk, 0, 20, 1, -1), 1);
        Due.equal("push: given already", Feed.push(desk, 0, 21, 1, 5), 1);
        Due.equal("release", desk.release(0), 1);
        rows(desk, 1, row(20, 1, -1));
        desk.replay();
        rows(desk, 1, row(20, 1, -1));
    }

    private static void windowTotals() {
        StreamDesk desk = Feed.desk("source s(a, k) delay 5 step w = window s by k every 10 (n = count, s = sum a * a, l = least a,"
                + " m = most a + time) step x = window s by k every 10 (l = last a, m = most a, c = least time)");
        Feed.push(desk, 0, 12, 3, 1);
        Feed.push(desk, 0, 19, -4, 1);
        Feed.push(desk, 0, 11, 2, 1);
        Feed.push(desk, 0, 15, 8, 2);
        Feed.push(desk, 0, 24, 8, 1);
        Due.equal("nothing is closed", desk.rows(1) + desk.rows(2), 0);
        Due.equal("push closes two windows each", Feed.push(desk, 0, 25, 9, 2), 5);
        rows(desk, 1, row(20, 1, 10, 3, 29, -4, 15), row(20, 2, 10, 1, 64, 8, 23));
        rows(desk, 2, row(20, 1, 10, 2, 3, 11), row(20, 2, 10, 8, 8, 15));
        wrappedSum();
    }

    private static void wrappedSum() {
        StreamDesk desk = Feed.desk("source s(a, k) step w = window s by k every 1 (s = sum a, m = most a, l = least a)");
        Feed.push(desk, 0, 0, Long.MAX_VALUE, 1);
        Feed.push(desk, 0, 0, Long.MAX_VALUE, 1);
        Feed.push(desk, 0, 0, Long.MIN_VALUE, 2);
        Feed.push(desk, 0, 1, 0, 0);
        rows(desk, 1, row(1, 1, 0, -2, Long.MAX_VALUE, Long.MAX_VALUE), row(1, 2, 0, Long.MIN_VALUE, Long.MIN_VALUE, Long.MIN_VALUE));
    }

    private static void windowBounds() {
        StreamDesk desk = Feed.desk("source s(k) step w = window s by k every 1000 (n = count)");
        Feed.push(desk, 0, 0, 1);
        Feed.push(desk, 0, 999, 1);
        Due.equal("open windows", desk.windows(1, false), 1);
        Due.equal("push at the end closes, and begins the next one", Feed.push(desk, 0, 1000, 1), 2);
        rows(desk, 1, row(1000, 1, 0, 2));
        Due.equal("open windows", desk.windows(1, false), 1);
        Due.equal("push", Feed.push(desk, 0, 1000000, 1), 2);
        rows(desk, 1, row(1000, 1, 0, 2), row(2000, 1, 1000, 1));
        Due.equal("watermark", desk.watermark(1), 1000000);
    }

    /** Windows close in ascending order of their ends, then of their numbers in k. */
    private static void windowOrder() {
        StreamDesk desk = Feed.desk("source s(k) delay 1000 step w = window s by k every 5 (n = count)");
        int[] times = {12, 3, 14, 4, 7, 3};
        int[] keys = {2, 9, -8, -7, 1, 0};
        for (int i = 0; i < times.length; i++) {
            Feed.push(desk, 0, times[i], keys[i]);
        }
        Due.equal("push", Feed.push(desk, 0, 1015, 1), 7);
        rows(desk, 1, row(5, -7, 0, 1), row(5, 0, 0, 1), row(5, 9, 0, 1), row(10, 1, 5, 1), row(15, -8, 10, 1), row(15, 2, 10, 1));
        Due.equal("open windows", desk.windows(1, false), 1);
    }

    private static void lateRows() {
        StreamDesk desk = Feed.desk("source s(k, a) step w = window s by k every 10 late 5 (n = count, l = last a)");
        Feed.push(desk, 0, 3, 1, 1);
        Due.equal("push closes nothing at 9", Feed.push(desk, 0, 9, 2, 2), 1);
        Due.equal("a late row for the watermark at 9 is none", Feed.push(desk, 0, 4, 1, 3), 1);
        Due.equal("push at 10 closes two windows", Feed.push(desk, 0, 10, 3, 4), 3);
        Due.equal("a late row gives its window's row at once", Feed.push(desk, 0, 5, 1, 5), 2);
        Due.equal("a late row begins a closed window", Feed.push(desk, 0, 6, 4, 6), 2);
        Due.equal("closed windows", desk.windows(1, true), 3);
        Due.equal("open windows", desk.windows(1, false), 1);
        Due.equal("push at 14", Feed.push(desk, 0, 14, 3, 7), 1);
        Due.equal("still in time at 14", Feed.push(desk, 0, 9, 1, 8), 2);
        rows(desk, 1, row(10, 1, 0, 2, 3), row(10, 2, 0, 1, 2), row(10, 1, 0, 3, 5), row(10, 4, 0, 1, 6), row(10, 1, 0, 4, 8));
        Due.equal("push at 15", Feed.push(desk, 0, 15, 3, 9), 1);
        Due.equal("windows are gone at 15", desk.windows(1, true), 0);
        Due.equal("too late at 15", Feed.push(desk, 0, 9, 1, 10), 1);
        Due.equal("held rows", desk.count(5), 1);
        Due.equal("its stream", desk.held(0, 0), 1);
        Due.equal("its reason", desk.held(0, 1), -1);
        Due.equal("its own number", desk.heldValue(0, 1), 10);
        watermarkAhead();
    }

    /** A row is measured by the watermark of its step ahead of the round, not by its own time. */
    private static void watermarkAhead() {
        StreamDesk desk = Feed.desk("source s(k) step u = merge s, s step w = window u by k every 5 (n = count)");
        Due.equal("push", Feed.push(desk, 0, 100, 1), 3);
        Due.equal("open windows", desk.windows(2, false), 1);
        Due.equal("push: both rows are late", Feed.push(desk, 0, 95, 1), 3);
        Due.equal("held rows", desk.count(5), 2);
        Due.equal("push", Feed.push(desk, 0, 104, 1), 3);
        Due.equal("push", Feed.push(desk, 0, 105, 1), 4);
        rows(desk, 2, row(105, 1, 100, 4));
    }

    private static void releaseOfLateRow() {
        StreamDesk desk = Feed.desk("source s(k, a) step w = window s by k every 10 late 5 (n = count, l = sum a)"
                + " step x = keep w where 1 check w: l < 100 else hold check w: l < 200 else stop");
        Feed.push(desk, 0, 1, 1, 1);
        Feed.push(desk, 0, 40, 1, 2);
        rows(desk, 1, row(10, 1, 0, 1, 1));
        Feed.push(desk, 0, 2, 1, 3);
        Feed.push(desk, 0, 3, 1, 150);
        Due.equal("held rows", desk.count(5), 2);
        Due.equal("release: the window begins anew", desk.release(0), 2);
        rows(desk, 1, row(10, 1, 0, 1, 1), row(10, 1, 0, 1, 3));
        rows(desk, 2, row(10, 1, 0, 1, 1), row(10, 1, 0, 1, 3));
        Due.equal("windows are gone again", desk.windows(1, true), 0);
        Due.equal("release: its row breaks a check", desk.release(0), 0);
        Due.equal("held rows", desk.count(5), 1);
        Due.equal("its stream", desk.held(0, 0), 1);
        Due.equal("its reason", desk.held(0, 1), 0);
        Due.equal("its sum", desk.heldValue(0, 3), 150);
        Due.equal("release: taken without checks", desk.release(0), 2);
        Due.equal("held rows", desk.count(5), 0);
        Due.equal("replay", desk.replay(), 0);
        rows(desk, 2, row(10, 1, 0, 1, 1), row(10, 1, 0, 1, 3), row(10, 1, 0, 1, 150));
    }

    private static void sixtyWindows() {
        StreamDesk desk = Feed.desk("source s(k) step w = window s by k every 10 late 1000 (n = count)");
        Feed.push(desk, 0, 20, 0);
        for (int k = 1; k < 60; k++) {
            Feed.push(desk, 0, 20, k);
        }
        Due.equal("open windows", desk.windows(1, false), 60);
        Due.equal("lost", desk.lost(), 0);
        Due.equal("one more is lost", Feed.push(desk, 0, 20, 60), 1);
        Due.equal("lost", desk.lost(), 1);
        Due.equal("a window that is there takes more", Feed.push(desk, 0, 29, 59), 1);
        Due.equal("a late one is lost, too", Feed.push(desk, 0, 5, 0), 1);
        Due.equal("lost", desk.lost(), 2);
        Due.equal("rows", desk.rows(1), 0);
        Due.equal("push closes sixty", Feed.push(desk, 0, 30, 1), 61);
        Due.equal("lost: closed windows take room", desk.lost(), 3);
        Due.equal("closed windows", desk.windows(1, true), 60);
        Due.equal("count of 59", desk.cell(1, 59, 2), 2);
        Due.equal("held rows", desk.count(5), 0);
        releaseOfSixtyFirst();
    }

    private static void releaseOfSixtyFirst() {
        StreamDesk desk = Feed.desk("source s(k) step w = window s by k every 10 (n = count)");
        Feed.push(desk, 0, 20, 0);
        Feed.push(desk, 0, 9, 7);
        Feed.push(desk, 0, 9, 8);
        for (int k = 1; k < 60; k++) {
            Feed.push(desk, 0, 20, k);
        }
        Due.equal("open windows", desk.windows(1, false), 60);
        Due.equal("release without room", desk.release(0), 0);
        Due.equal("lost", desk.lost(), 1);
        Due.equal("held rows", desk.count(5), 1);
        Feed.push(desk, 0, 30, 0);
        Due.equal("lost: there was no room ahead of closing", desk.lost(), 2);
        Due.equal("release with room", desk.release(0), 1);
        Due.equal("lost", desk.lost(), 2);
        Due.equal("its row", desk.cell(1, 60, -1), 10);
    }

    /** The rows of a window come with its end as time to the next one, whose watermark is the same. */
    private static void windowOfWindow() {
        StreamDesk desk = Feed.desk("source s(k) step v = window s by k every 5 (n = count)"
                + " step w = window v by k every 10 late 5 (m = sum n, b = last begin)");
        Feed.push(desk, 0, 1, 1);
        Feed.push(desk, 0, 6, 1);
        rows(desk, 1, row(5, 1, 0, 1));
        Due.equal("open windows", desk.windows(2, false), 1);
        Due.equal("push", Feed.push(desk, 0, 12, 1), 3);
        rows(desk, 1, row(5, 1, 0, 1), row(10, 1, 5, 1));
        rows(desk, 2, row(10, 1, 0, 1, 0));
        Due.equal("open and closed windows", desk.windows(2, false) * 10 + desk.windows(2, true), 11);
    }

    private static void stopGoesOnToTheEnd() {
        StreamDesk desk = Feed.desk("source s(a) step t = merge s, s check t: a else stop step u = keep s where 1");
        Due.equal("push", Feed.push(desk, 0, 3, 0), 2);
        Due.yes("stopped", desk.isStopped());
        Due.equal("held rows", desk.count(5), 2);
        rows(desk, 2, row(3, 0));
        Due.equal("release, though stopped", desk.release(1), 1);
        Due.yes("stopped", desk.isStopped());
        desk.go();
        Due.equal("push", Feed.push(desk, 0, 3, 1), 4);
    }

    /** Two objects share nothing. */
    private static void twoObjects() {
        StreamDesk a = Feed.desk("source s(a)");
        StreamDesk b = Feed.desk("source t(a, b)");
        Feed.push(a, 0, 1, 2);
        Due.equal("rows of the one", a.rows(0), 1);
        Due.equal("rows of the other", b.rows(0), 0);
        Due.equal("columns of the other", b.stream(0, 1), 2);
    }
}
