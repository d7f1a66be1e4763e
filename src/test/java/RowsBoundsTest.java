/** Section 2: the checks of a row, 200 rows of a stream, and 60 held rows. */
public final class RowsBoundsTest {
    /** A push of 2 gives m two rows, a push of 1 gives it one, a push of 9 gives it two that break its check. */
    private static final String MERGED = "source s(a) step k = keep s where a > 1 step m = merge s, k check m: a <> 9 else hold"
            + " step n = keep m where 1";
    private static final int M = 2;
    private static final int N = 3;

    /** 1 is held, 2 stops, 3 is dropped; a row is late for w if its time is more than 10 back. */
    private static final String HELD = "source s(a) check s: a <> 1 else hold check s: a <> 2 else stop check s: a <> 3 else drop"
            + " step w = window s by a every 10 (n = count)";

    private RowsBoundsTest() {
    }

    public static void main(String[] args) {
        numberOtherThanZeroIsTrue();
        firstCheckDecides();
        checksOfOtherStreams();
        droppedRowIsGone();
        heldRowComesBehindTheOthers();
        stopAsHold();
        noChecks();
        allChecksTrue();
        rowsUpTo200();
        oneOfTwoRowsIsLost();
        lostRowGoesNoFurther();
        fullStreamLooksAtItsChecksFirst();
        fullStreamDropsWithoutLoss();
        sourceWith200Rows();
        heldRowsUpTo60();
        stopWith60HeldRows();
        dropWith60HeldRows();
        lateRowWith60HeldRows();
        placeIsFreeBehindDiscardAndRelease();
        brokenCountsLostRows();
        rowOfOneAndOfSixNumbers();
        numbersOfHeldRowsOfEachStep();
        Due.end();
    }

    private static void push(StreamDesk desk, int n, int time, long number) {
        for (int i = 0; i < n; i++) {
            Feed.push(desk, 0, time, number);
        }
    }

    private static void numberOtherThanZeroIsTrue() {
        Due.sentence("a number other than 0 is true; the first one whose expression is not true decides");
        StreamDesk desk = Feed.desk("source s(a) check s: a else hold step k = keep s where a");
        for (long a : new long[] {1, -1, 2, 1L << 32, Long.MIN_VALUE, Long.MAX_VALUE}) {
            Due.equal("push of " + a, Feed.push(desk, 0, 0, a), 2);
        }
        Due.equal("push of 0", Feed.push(desk, 0, 0, 0), 0);
        Due.equal("held rows", desk.count(5), 1);
        StreamDesk kept = Feed.desk("source s(a) step k = keep s where a");
        Due.equal("push of 0", Feed.push(kept, 0, 0, 0), 1);
        Due.equal("push of -1", Feed.push(kept, 0, 0, -1), 2);
        Due.equal("push of 2 to the 32nd", Feed.push(kept, 0, 0, 1L << 32), 2);
    }

    private static void firstCheckDecides() {
        Due.sentence("its checks are looked at, in their order: the first one whose expression is not true decides");
        StreamDesk desk = Feed.desk("source s(a) check s: a > 0 else drop check s: a > 10 else hold check s: a > 20 else stop"
                + " check s: a > 15 else drop");
        Due.equal("push of 0: the first one", Feed.push(desk, 0, 0, 0), 0);
        Due.equal("held rows", desk.count(5), 0);
        Due.equal("push of 5: the second one", Feed.push(desk, 0, 0, 5), 0);
        Due.no("stopped", desk.isStopped());
        Due.equal("push of 21: none", Feed.push(desk, 0, 0, 21), 1);
        Due.equal("push of 15: the third one", Feed.push(desk, 0, 0, 15), 0);
        Due.yes("stopped", desk.isStopped());
        Rows.heldEqual(desk, 0, 0, 1, 0, 5);
        Rows.heldEqual(desk, 1, 0, 2, 0, 15);
        int[] broken = {1, 1, 1, 0};
        for (int i = 0; i < 4; i++) {
            Due.equal("broken(" + i + ")", desk.broken(i), broken[i]);
        }
    }

    private static void checksOfOtherStreams() {
        Due.sentence("When a stream would get a row, its checks are looked at");
        StreamDesk desk = Feed.desk("source s(a) source t(a) check t: 0 else drop step k = keep s where 1 check k: 0 else hold"
                + " check s: a else hold");
        Due.equal("push to s", Feed.push(desk, 0, 0, 1), 1);
        Rows.heldEqual(desk, 0, 2, 1, 0, 1);
        Due.equal("push to t", Feed.push(desk, 1, 0, 1), 0);
        Due.equal("push to s", Feed.push(desk, 0, 0, 0), 0);
        Rows.heldEqual(desk, 1, 0, 2, 0, 0);
        for (int check = 0; check < 3; check++) {
            Due.equal("broken(" + check + ")", desk.broken(check), 1);
        }
    }

    private static void droppedRowIsGone() {
        Due.sentence("drop: the row is gone.");
        StreamDesk desk = Feed.desk("source s(a) check s: a else drop step k = keep s where 1");
        Due.equal("push", Feed.push(desk, 0, 5, 0), 0);
        Due.equal("held rows", desk.count(5), 0);
        Due.equal("lost", desk.lost(), 0);
        Due.equal("rows", desk.rows(0) + desk.rows(1), 0);
        Due.no("stopped", desk.isStopped());
        Due.equal("broken", desk.broken(0), 1);
        Due.equal("entries", desk.count(3), 1);
    }

    private static void heldRowComesBehindTheOthers() {
        Due.sentence("hold: it comes to the held rows, behind the others, with the stream and the number of the check as its reason.");
        StreamDesk desk = Feed.desk("source s(a, b) check s: 1 else drop check s: a else hold step m = make s with c = 5"
                + " check m: b else hold");
        Feed.push(desk, 0, 3, 0, 8);
        Feed.push(desk, 0, 2, 7, 0);
        Feed.push(desk, 0, 1, 0, 9);
        Due.equal("held rows", desk.count(5), 3);
        Rows.heldEqual(desk, 0, 0, 1, 3, 0, 8);
        Rows.heldEqual(desk, 1, 1, 2, 2, 7, 0, 5);
        Rows.heldEqual(desk, 2, 0, 1, 1, 0, 9);
        Due.thrown(desk, "a third number", IndexOutOfBoundsException.class, () -> desk.heldValue(0, 2));
        Due.thrown(desk, "a fourth number", IndexOutOfBoundsException.class, () -> desk.heldValue(1, 3));
    }

    private static void stopAsHold() {
        Due.sentence("stop: as hold; and the desk is stopped");
        StreamDesk desk = Feed.desk(HELD);
        push(desk, 1, 4, 2);
        Due.yes("stopped", desk.isStopped());
        Rows.heldEqual(desk, 0, 0, 1, 4, 2);
        Due.equal("broken", desk.broken(1), 1);
        Due.equal("rows", desk.rows(0), 0);
        desk.value(5);
        Due.thrown(desk, "push", IllegalStateException.class, () -> desk.push(0, 4));
    }

    private static void noChecks() {
        Due.sentence("If all are true (or there are none), the stream takes the row");
        StreamDesk desk = Feed.desk("source s(a)");
        Due.equal("push", Feed.push(desk, 0, 0, 0), 1);
    }

    private static void allChecksTrue() {
        Due.sentence("If all are true .., the stream takes the row");
        StreamDesk desk = Feed.desk("source s(a) " + "check s: a <> 5 else drop ".repeat(7) + "check s: a <> 6 else drop");
        Due.equal("push of 4", Feed.push(desk, 0, 0, 4), 1);
        Due.equal("push of 6: the eighth one", Feed.push(desk, 0, 0, 6), 0);
        Due.equal("broken", desk.broken(7), 1);
        Due.equal("push of 5: the first one", Feed.push(desk, 0, 0, 5), 0);
        Due.equal("broken", desk.broken(0), 1);
        Due.equal("broken", desk.broken(1) + desk.broken(6), 0);
    }

    /** m with so many rows. */
    private static StreamDesk merged(int rows) {
        StreamDesk desk = Feed.desk(MERGED);
        push(desk, rows / 2, 0, 2);
        push(desk, rows % 2, 0, 1);
        Due.equal("rows of m", desk.rows(M), rows);
        Due.equal("rows of n", desk.rows(N), rows);
        Due.equal("lost", desk.lost(), 0);
        return desk;
    }

    private static void rowsUpTo200() {
        Due.sentence("the stream takes the row; but if it has 200 rows already, the row is lost.");
        StreamDesk desk = merged(198);
        Due.equal("push: the 199th row", Feed.push(desk, 0, 3, 1), 3);
        Due.equal("rows", desk.rows(M), 199);
        Due.equal("push: the 200th row", Feed.push(desk, 0, 4, 1), 3);
        Due.equal("rows", desk.rows(M), 200);
        Due.equal("lost", desk.lost(), 0);
        Due.equal("time of the 200th row", desk.cell(M, 199, -1), 4);
        Due.thrown(desk, "cell of a 201st row", IndexOutOfBoundsException.class, () -> desk.cell(M, 200, -1));
        Due.equal("push: a 201st row", Feed.push(desk, 0, 5, 1), 1);
        Due.equal("rows", desk.rows(M), 200);
        Due.equal("lost", desk.lost(), 1);
        Due.equal("time of the 200th row", desk.cell(M, 199, -1), 4);
        Due.thrown(desk, "cell of a 201st row", IndexOutOfBoundsException.class, () -> desk.cell(M, 200, -1));
        Due.equal("push: two more", Feed.push(desk, 0, 5, 2), 2);
        Due.equal("lost", desk.lost(), 3);
    }

    private static void oneOfTwoRowsIsLost() {
        Due.sentence("if it has 200 rows already, the row is lost: row by row");
        StreamDesk desk = merged(199);
        Due.equal("push of two rows", Feed.push(desk, 0, 7, 2), 4);
        Due.equal("rows", desk.rows(M), 200);
        Due.equal("lost", desk.lost(), 1);
        StreamDesk both = merged(198);
        Due.equal("push of two rows", Feed.push(both, 0, 7, 2), 6);
        Due.equal("lost", both.lost(), 0);
    }

    private static void lostRowGoesNoFurther() {
        Due.sentence("each row that the first one of its inputs took: a lost one is not taken");
        StreamDesk desk = Feed.desk("source s(a) step m = merge s, s step n = pick m (a) step w = window m by a every 1000 (n = count)");
        push(desk, 100, 0, 1);
        Due.equal("push of two rows to a full stream", Feed.push(desk, 0, 0, 1), 1);
        Due.equal("rows of n", desk.rows(2), 200);
        Due.equal("push", Feed.push(desk, 0, 1000, 1), 2);
        Due.equal("count of the window", desk.cell(3, 0, 2), 200);
        Due.equal("watermark of a full stream", desk.watermark(1), 1000);
    }

    private static void fullStreamLooksAtItsChecksFirst() {
        Due.sentence("the first one whose expression is not true decides; if all are true, .. if it has 200 rows already");
        StreamDesk desk = merged(200);
        Due.equal("push", Feed.push(desk, 0, 6, 9), 2);
        Due.equal("held rows", desk.count(5), 2);
        Due.equal("broken", desk.broken(0), 2);
        Due.equal("lost", desk.lost(), 0);
        Rows.heldEqual(desk, 1, M, 0, 6, 9);
    }

    private static void fullStreamDropsWithoutLoss() {
        Due.sentence("drop: the row is gone; lost: how many rows were lost");
        StreamDesk desk = Feed.desk("source s(a) step m = merge s, s check m: a else drop");
        push(desk, 100, 0, 1);
        push(desk, 1, 0, 0);
        Due.equal("lost", desk.lost(), 0);
        Due.equal("broken", desk.broken(0), 2);
        push(desk, 1, 0, 1);
        Due.equal("lost", desk.lost(), 2);
        Due.equal("broken", desk.broken(0), 2);
    }

    private static void sourceWith200Rows() {
        Due.sentence("if it has 200 rows already: a source gets no more than the log has room for");
        StreamDesk desk = Feed.desk("source s(a) step k = keep s where 1");
        for (int i = 0; i < 200; i++) {
            Due.equal("push", Feed.push(desk, 0, i, i), 2);
        }
        Due.equal("rows", desk.rows(0), 200);
        Due.equal("rows", desk.rows(1), 200);
        Due.equal("lost", desk.lost(), 0);
        Due.equal("the first row", desk.cell(1, 0, 0), 0);
        Due.equal("the last row", desk.cell(1, 199, 0), 199);
        Due.equal("taken", desk.taken(), 1.0);
    }

    private static void heldRowsUpTo60() {
        Due.sentence("If there are 60 held rows, one that would be held is lost, too.");
        StreamDesk desk = Feed.desk(HELD);
        push(desk, 59, 0, 1);
        Due.equal("held rows", desk.count(5), 59);
        Due.equal("push: the 60th", Feed.push(desk, 0, 7, 1), 0);
        Due.equal("held rows", desk.count(5), 60);
        Due.equal("lost", desk.lost(), 0);
        Rows.heldEqual(desk, 59, 0, 0, 7, 1);
        Due.equal("push: a 61st", Feed.push(desk, 0, 8, 1), 0);
        Due.equal("held rows", desk.count(5), 60);
        Due.equal("lost", desk.lost(), 1);
        Rows.heldEqual(desk, 59, 0, 0, 7, 1);
        Due.thrown(desk, "held(60, 0)", IndexOutOfBoundsException.class, () -> desk.held(60, 0));
        Due.no("stopped", desk.isStopped());
    }

    private static void stopWith60HeldRows() {
        Due.sentence("and the desk is stopped (also if the row is lost)");
        for (int n : new int[] {58, 59, 60}) {
            StreamDesk desk = Feed.desk(HELD);
            push(desk, n, 0, 1);
            Due.equal("push", Feed.push(desk, 0, 9, 2), 0);
            Due.yes("stopped with " + n + " held rows", desk.isStopped());
            Due.equal("held rows", desk.count(5), Math.min(60, n + 1));
            Due.equal("lost", desk.lost(), n == 60 ? 1 : 0);
            Due.equal("broken", desk.broken(1), 1);
            Due.equal("go", desk.go(), Math.min(60, n + 1));
        }
    }

    private static void dropWith60HeldRows() {
        Due.sentence("one that would be held is lost, too: one that is dropped or taken is not");
        StreamDesk desk = Feed.desk(HELD);
        push(desk, 60, 0, 1);
        Due.equal("push that is dropped", Feed.push(desk, 0, 0, 3), 0);
        Due.equal("push that is taken", Feed.push(desk, 0, 0, 4), 1);
        Due.equal("lost", desk.lost(), 0);
    }

    private static void lateRowWith60HeldRows() {
        Due.sentence("If there are 60 held rows, one that would be held is lost, too: also one that is late");
        for (int n : new int[] {58, 59, 60}) {
            StreamDesk desk = Feed.desk(HELD);
            push(desk, 1, 100, 5);
            push(desk, n, 0, 1);
            Due.equal("push of a late row", Feed.push(desk, 0, 89, 6), 1);
            Due.equal("held rows", desk.count(5), Math.min(60, n + 1));
            Due.equal("lost", desk.lost(), n == 60 ? 1 : 0);
            Due.equal("windows", desk.windows(1, true) * 100 + desk.windows(1, false), 1);
            if (n < 60) {
                Rows.heldEqual(desk, n, 1, -1, 89, 6);
            }
        }
    }

    private static void placeIsFreeBehindDiscardAndRelease() {
        Due.sentence("A held row can be discarded, or released: it is held no more.");
        StreamDesk desk = Feed.desk(HELD);
        for (int i = 0; i < 60; i++) {
            push(desk, 1, i, 1);
        }
        Due.equal("discard", desk.discard(59), 0);
        Due.equal("held rows", desk.count(5), 59);
        push(desk, 1, 1000, 1);
        Due.equal("lost", desk.lost(), 0);
        Rows.heldEqual(desk, 59, 0, 0, 1000, 1);
        Due.equal("release", desk.release(0), 1);
        Due.equal("held rows", desk.count(5), 60);
        Due.equal("the row was late in its window", desk.held(59, 1), -1);
        Rows.heldEqual(desk, 58, 0, 0, 1000, 1);
        Rows.heldEqual(desk, 0, 0, 0, 1, 1);
        push(desk, 1, 2000, 1);
        Due.equal("lost", desk.lost(), 1);
    }

    private static void brokenCountsLostRows() {
        Due.sentence("broken: how many rows it has not let through");
        StreamDesk desk = Feed.desk(HELD);
        Due.equal("broken at first", desk.broken(0), 0);
        push(desk, 61, 0, 1);
        Due.equal("broken, one of them lost", desk.broken(0), 61);
        push(desk, 2, 0, 3);
        Due.equal("broken by dropped rows", desk.broken(2), 2);
        push(desk, 2, 0, 4);
        Due.equal("broken by none", desk.broken(0), 61);
        desk.release(0);
        Due.equal("broken behind release", desk.broken(0), 61);
        desk.discard(0);
        Due.equal("broken behind discard", desk.broken(0), 61);
    }

    private static void rowOfOneAndOfSixNumbers() {
        Due.sentence("A row has a time, and a number for each column.");
        StreamDesk desk = Feed.desk("source s(a) source t(a, b, c, d, e, f) check t: a else hold");
        Feed.push(desk, 0, 1000000, 1);
        Feed.push(desk, 1, 0, 1, 2, 3, 4, 5, 6);
        Feed.push(desk, 1, 9, 0, 2, 3, 4, 5, 7);
        Rows.equal(desk, 0, new long[] {1000000, 1});
        Rows.equal(desk, 1, new long[] {0, 1, 2, 3, 4, 5, 6});
        Rows.heldEqual(desk, 0, 1, 0, 9, 0, 2, 3, 4, 5, 7);
        Due.thrown(desk, "cell of a second column", IndexOutOfBoundsException.class, () -> desk.cell(0, 0, 1));
        Due.thrown(desk, "cell of a seventh column", IndexOutOfBoundsException.class, () -> desk.cell(1, 0, 6));
        Due.thrown(desk, "a seventh number", IndexOutOfBoundsException.class, () -> desk.heldValue(0, 6));
    }

    private static void numbersOfHeldRowsOfEachStep() {
        Due.sentence("A row has a time, and a number for each column: also a held row of each kind of step");
        String program = "source s(k, a, b) source t(k, c) step x = ";
        String[] works = {"keep s where 1", "make s with d = 7", "pick s (b, a)", "merge t, t", "join s, t on k within 9",
            "first s by k within 5", "window s by k every 5 (n = count)", "window s by k every 5 (n = count, m = sum a, o = last b)"};
        long[][] due = {{2, 0, 0, 1, 2, 3}, {2, 0, 0, 1, 2, 3, 7}, {2, 0, 0, 3, 2}, {2, 0, 0, 1, 4}, {2, 0, 0, 1, 2, 3, 4},
            {2, 0, 0, 1, 2, 3}, {2, 0, 5, 1, 0, 1}, {2, 0, 5, 1, 0, 1, 2, 3}};
        for (int i = 0; i < works.length; i++) {
            StreamDesk desk = Feed.desk(program + works[i] + " check x: 0 else hold");
            Feed.push(desk, 0, 0, 1, 2, 3);
            Feed.push(desk, 1, 0, 1, 4);
            Feed.push(desk, 0, 5, 9, 9, 9);
            Rows.heldEqual(desk, 0, due[i]);
            int width = due[i].length - 3;
            Due.thrown(desk, "heldValue(0, " + width + ") of " + works[i], IndexOutOfBoundsException.class,
                    () -> desk.heldValue(0, width));
            Due.equal("release", desk.release(0), 1);
            Due.thrown(desk, "cell of one more column", IndexOutOfBoundsException.class, () -> desk.cell(2, 0, width));
        }
        StreamDesk late = Feed.desk("source s(k, a) step w = window s by k every 5 (n = count, m = count)");
        Feed.push(late, 0, 5, 1, 1);
        Feed.push(late, 0, 0, 1, 2);
        Rows.heldEqual(late, 0, 1, -1, 0, 1, 2);
        Due.thrown(late, "heldValue(0, 2) of a late row", IndexOutOfBoundsException.class, () -> late.heldValue(0, 2));
        StreamDesk atOnce = Feed.desk("source s(k) step w = window s by k every 5 late 5 (n = count) check w: 0 else hold");
        Feed.push(atOnce, 0, 9, 1);
        Feed.push(atOnce, 0, 4, 2);
        Rows.heldEqual(atOnce, 0, 1, 0, 5, 2, 0, 1);
        Due.thrown(atOnce, "heldValue(0, 3) of a row at once", IndexOutOfBoundsException.class, () -> atOnce.heldValue(0, 3));
    }
}
