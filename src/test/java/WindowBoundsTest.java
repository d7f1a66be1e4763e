/** Section 3: where windows begin and end, when a row is late, when windows close and are gone, and 60 of them. */
public final class WindowBoundsTest {
    private static final long MAX = Long.MAX_VALUE;
    private static final long MIN = Long.MIN_VALUE;

    private WindowBoundsTest() {
    }

    public static void main(String[] args) {
        beginAndEnd();
        numbersOfWindows();
        watermarkLessThanTheEnd();
        watermarkLessThanTheEndAndLate();
        heldBehindTheEndAndLate();
        lateRowOfItsOwnWindow();
        lateRowIntoAWindowThatIsThere();
        watermarkAheadOfB();
        closedAtTheWatermark();
        closedInOrderOfEndsAndNumbers();
        closedOnce();
        begunClosed();
        goneAtTheEndAndLate();
        goneAtOnceWithoutLate();
        windowsThatStayKeepTheirRows();
        rowOfAWindow();
        totalsOverAllRows();
        totalsOfOneRow();
        sixtyWindows();
        sixtyWindowsClosedOnesToo();
        lateRowWithoutRoom();
        heldRowNeedsNoWindow();
        sixtyWindowsOfEachStep();
        releasedRowWithoutRoom();
        roomBehindThoseThatAreGone();
        windowWithChecks();
        twoHundredRowsOfAWindow();
        stopWithinARound();
        nothingIsPushedWhileStopped();
        Due.end();
    }

    private static void beginAndEnd() {
        Due.sentence("that begins at the greatest multiple of n that is not greater than its time, and ends n later");
        for (int n : new int[] {1, 2, 7, 999, 1000}) {
            for (int time : new int[] {0, 1, n - 1, n, n + 1, 2 * n - 1, 2 * n, 2 * n + 1, 998000, 998999}) {
                StreamDesk desk = Feed.desk("source s(k) step w = window s by k every " + n + " (c = count)");
                Feed.push(desk, 0, time, 5);
                Due.equal("open windows", desk.windows(1, false), 1);
                Due.equal("push that closes it", Feed.push(desk, 0, 1000000, 6), 2);
                int begin = time / n * n;
                Rows.equal(desk, 1, new long[] {begin + n, 5, begin, 1});
            }
        }
        StreamDesk desk = Feed.desk("source s(k) step w = window s by k every 1 (c = count)");
        Feed.push(desk, 0, 999999, 5);
        Due.equal("push at 1000000", Feed.push(desk, 0, 1000000, 5), 2);
        Rows.equal(desk, 1, new long[] {1000000, 5, 999999, 1});
        Due.equal("open windows", desk.windows(1, false), 1);
    }

    private static void numbersOfWindows() {
        Due.sentence("window puts a row into the window of its number in k");
        long[] numbers = {MIN, MIN + 1, -1, 0, 1, 1L << 32, 1L << 32 | 1, MAX - 1, MAX};
        StreamDesk desk = Feed.desk("source s(a, k) step w = window s by k every 5 (c = count)");
        for (int i = 0; i < numbers.length; i++) {
            Feed.push(desk, 0, 4, 1, numbers[i]);
            Due.equal("open windows", desk.windows(1, false), i + 1);
        }
        for (long k : numbers) {
            Feed.push(desk, 0, 0, 2, k);
        }
        Due.equal("open windows", desk.windows(1, false), numbers.length);
        Feed.push(desk, 0, 5, 3, 0);
        for (int i = 0; i < numbers.length; i++) {
            Due.equal("k", desk.cell(1, i, 0), numbers[i]);
            Due.equal("count", desk.cell(1, i, 2), 2);
        }
    }

    /** A desk whose window of 10 has this watermark; its own window of 99 is the only one that is there or was. */
    private static StreamDesk at(int watermark, String late) {
        StreamDesk desk = Feed.desk("source s(k) step w = window s by k every 10" + late + " (c = count)");
        Feed.push(desk, 0, watermark, 99);
        Due.equal("watermark", desk.watermark(1), watermark);
        return desk;
    }

    private static void watermarkLessThanTheEnd() {
        Due.sentence("If the watermark of the step is less than the end, it goes in.");
        for (int watermark : new int[] {0, 8, 9}) {
            for (String late : new String[] {"", " late 1", " late 1000"}) {
                StreamDesk desk = at(watermark, late);
                Due.equal("push", Feed.push(desk, 0, 0, 1), 1);
                Due.equal("open windows", desk.windows(1, false), 2);
                Due.equal("closed windows", desk.windows(1, true), 0);
                Due.equal("held rows", desk.count(5), 0);
                Due.equal("rows", desk.rows(1), 0);
            }
        }
    }

    private static void watermarkLessThanTheEndAndLate() {
        Due.sentence("Otherwise, if it is less than the end and m together, it goes in, and the stream would get the row of the"
                + " window at once.");
        for (int late : new int[] {1, 2, 5, 1000}) {
            for (int watermark : new int[] {10, 10 + late / 2, 10 + late - 1}) {
                if (watermark - 10 >= late) {
                    continue;
                }
                for (int time : new int[] {0, 9}) {
                    StreamDesk desk = at(watermark, " late " + late);
                    Due.equal("push late by " + (watermark - 10) + " of " + late, Feed.push(desk, 0, time, 1), 2);
                    Rows.equal(desk, 1, new long[] {10, 1, 0, 1});
                    Due.equal("closed windows", desk.windows(1, true), 1);
                    Due.equal("held rows", desk.count(5), 0);
                    Due.equal("push", Feed.push(desk, 0, 10, 98), watermark < 20 ? 1 : 2);
                }
            }
        }
    }

    private static void heldBehindTheEndAndLate() {
        Due.sentence("Otherwise it is held, with the step as its stream, the reason -1, and its own numbers.");
        for (int late : new int[] {0, 1, 2, 5, 1000}) {
            for (int more = 0; more < 2; more++) {
                StreamDesk desk = at(10 + late + more, " late " + late);
                long windows = desk.windows(1, true) * 100 + desk.windows(1, false);
                for (int time : new int[] {0, 9}) {
                    int before = desk.count(5);
                    Due.equal("push late by " + (late + more) + " of " + late, Feed.push(desk, 0, time, 1), 1);
                    Due.equal("held rows", desk.count(5), before + 1);
                    Rows.heldEqual(desk, before, 1, -1, time, 1);
                }
                Due.equal("rows", desk.rows(1), 0);
                Due.equal("windows", desk.windows(1, true) * 100 + desk.windows(1, false), windows);
                Due.equal("lost", desk.lost(), 0);
            }
        }
        StreamDesk without = at(10, "");
        Due.equal("push", Feed.push(without, 0, 9, 1), 1);
        Rows.heldEqual(without, 0, 1, -1, 9, 1);
    }

    private static void lateRowOfItsOwnWindow() {
        Due.sentence("the end: of its own window, whatever the others' ends are");
        StreamDesk desk = at(29, " late 10");
        int[] times = {30, 20, 19, 10, 9, 0};
        int[] taken = {1, 1, 2, 2, 1, 1};
        // the push at 30 comes last, as it makes the watermark greater
        for (int i = 1; i < times.length; i++) {
            Due.equal("push at " + times[i], Feed.push(desk, 0, times[i], 1), taken[i]);
        }
        Due.equal("held rows", desk.count(5), 2);
        Due.equal("push at 30", Feed.push(desk, 0, times[0], 1), 3);
    }

    private static void lateRowIntoAWindowThatIsThere() {
        Due.sentence("it goes in, and the stream would get the row of the window at once: with all rows that are in it");
        StreamDesk desk = Feed.desk("source s(k, a) step w = window s by k every 10 late 5 (c = count, x = sum a, l = last a)");
        Feed.push(desk, 0, 0, 1, 5);
        Feed.push(desk, 0, 9, 1, 6);
        Feed.push(desk, 0, 14, 2, 0);
        Feed.push(desk, 0, 8, 1, 7);
        Feed.push(desk, 0, 8, 1, 8);
        Rows.equal(desk, 1, new long[] {10, 1, 0, 2, 11, 6}, new long[] {10, 1, 0, 3, 18, 7}, new long[] {10, 1, 0, 4, 26, 8});
        Due.equal("closed windows", desk.windows(1, true), 1);
    }

    private static void watermarkAheadOfB() {
        Due.sentence("the watermark of the step (as it is then, ahead of (b))");
        StreamDesk desk = Feed.desk("source s(k) step v = window s by k every 5 (n = count) step w = window v by k every 10 (c = count)");
        Feed.push(desk, 0, 1, 7);
        // v closes its window at 5 now that its watermark is 30; that of w is 1 yet
        Due.equal("push", Feed.push(desk, 0, 30, 8), 3);
        Rows.equal(desk, 2, new long[] {10, 7, 0, 1});
        Due.equal("held rows", desk.count(5), 0);
        Due.equal("watermark", desk.watermark(2), 30);
        StreamDesk late = Feed.desk("source s(k) delay 10 step w = window s by k every 10 late 5 (c = count)");
        Feed.push(late, 0, 0, 7);
        Due.equal("push that closes", Feed.push(late, 0, 20, 7), 2);
        Due.equal("push that is late", Feed.push(late, 0, 9, 7), 2);
        Due.equal("push whose own time ends all lateness", Feed.push(late, 0, 25, 7), 1);
        Due.equal("push that is held", Feed.push(late, 0, 9, 7), 1);
        Due.equal("held rows", late.count(5), 1);
    }

    private static void closedAtTheWatermark() {
        Due.sentence("(c) Each window that was not closed yet, and whose end is not greater than the watermark, is closed");
        for (int watermark : new int[] {8, 9, 10, 11, 19}) {
            StreamDesk desk = Feed.desk("source s(k) step w = window s by k every 10 late 100 (c = count)");
            Feed.push(desk, 0, 0, 1);
            Due.equal("push at " + watermark, Feed.push(desk, 0, watermark, 2), watermark < 10 ? 1 : 2);
            Due.equal("closed windows", desk.windows(1, true), watermark < 10 ? 0 : 1);
            Due.equal("open windows", desk.windows(1, false), watermark < 10 ? 2 : 1);
        }
        StreamDesk delayed = Feed.desk("source s(k) delay 3 step w = window s by k every 10 (c = count)");
        Feed.push(delayed, 0, 0, 1);
        Due.equal("push at 12", Feed.push(delayed, 0, 12, 2), 1);
        Due.equal("push at 13", Feed.push(delayed, 0, 13, 2), 2);
    }

    private static void closedInOrderOfEndsAndNumbers() {
        Due.sentence("in ascending order of their ends, of the same end of their numbers in k");
        StreamDesk desk = Feed.desk("source s(k) delay 1000 step w = window s by k every 5 (c = count)");
        long[] numbers = {MAX, 0, 1L << 32, MIN, -1, 1, MIN + 1, MAX - 1};
        for (int time : new int[] {14, 4, 9, 5}) {
            for (long k : numbers) {
                Feed.push(desk, 0, time, k);
            }
        }
        Due.equal("open windows", desk.windows(1, false), 24);
        Due.equal("push", Feed.push(desk, 0, 1015, 0), 25);
        long[] ordered = {MIN, MIN + 1, -1, 0, 1, 1L << 32, MAX - 1, MAX};
        for (int i = 0; i < 24; i++) {
            Due.equal("end", desk.cell(1, i, -1), 5 * (i / 8) + 5);
            Due.equal("k", desk.cell(1, i, 0), ordered[i % 8]);
            Due.equal("count", desk.cell(1, i, 2), i / 8 == 1 ? 2 : 1);
        }
    }

    private static void closedOnce() {
        Due.sentence("Each window that was not closed yet");
        StreamDesk desk = Feed.desk("source s(k) step w = window s by k every 10 late 20 (c = count)");
        Feed.push(desk, 0, 0, 1);
        Due.equal("push at 10", Feed.push(desk, 0, 10, 1), 2);
        Due.equal("push at 11", Feed.push(desk, 0, 11, 1), 1);
        Due.equal("push at 20", Feed.push(desk, 0, 20, 1), 2);
        Due.equal("push at 29", Feed.push(desk, 0, 29, 1), 1);
        Due.equal("push at 30", Feed.push(desk, 0, 30, 1), 2);
        Due.equal("rows", desk.rows(1), 3);
    }

    private static void begunClosed() {
        Due.sentence("(A window that begins to be there when its end is not greater than the watermark is closed from then on.)");
        for (int watermark : new int[] {9, 10, 11}) {
            StreamDesk desk = at(watermark, " late 5");
            Due.equal("push", Feed.push(desk, 0, 3, 1), watermark < 10 ? 1 : 2);
            Due.equal("closed windows", desk.windows(1, true), watermark < 10 ? 0 : 1);
            Due.equal("rows, as (c) closes it not again", desk.rows(1), watermark < 10 ? 0 : 1);
            Due.equal("push at 14", Feed.push(desk, 0, 14, 99), watermark < 10 ? 3 : 1);
            Due.equal("closed windows", desk.windows(1, true), watermark < 10 ? 2 : 1);
        }
    }

    private static void goneAtTheEndAndLate() {
        Due.sentence("Windows whose end and m together are not greater than the watermark are gone then.");
        for (int late : new int[] {1, 5, 1000}) {
            for (int more = -1; more <= 1; more++) {
                StreamDesk desk = Feed.desk("source s(k) step w = window s by k every 10 late " + late + " (c = count)");
                Feed.push(desk, 0, 9, 1);
                Feed.push(desk, 0, 10, 1);
                Due.equal("closed windows", desk.windows(1, true), 1);
                Feed.push(desk, 0, 10 + late + more, 1);
                Due.equal("the closed windows that end at 10, late " + late, desk.windows(1, true),
                        (more < 0 ? 1 : 0) + (late == 1000 ? 1 : 0));
            }
        }
    }

    private static void goneAtOnceWithoutLate() {
        Due.sentence("Windows whose end and m together are not greater than the watermark are gone then: with m 0 as they are closed");
        StreamDesk desk = Feed.desk("source s(k) step w = window s by k every 10 (c = count)");
        Feed.push(desk, 0, 0, 1);
        Feed.push(desk, 0, 5, 2);
        Due.equal("push", Feed.push(desk, 0, 10, 3), 3);
        Due.equal("closed windows", desk.windows(1, true), 0);
        Due.equal("open windows", desk.windows(1, false), 1);
        // of those between others that stay, the right ones go
        StreamDesk some = Feed.desk("source s(k) delay 20 step w = window s by k every 10 (c = count, l = last time)");
        int[] times = {15, 5, 25, 6, 16, 26};
        for (int i = 0; i < times.length; i++) {
            Feed.push(some, 0, times[i], i);
        }
        Due.equal("push that closes two", Feed.push(some, 0, 30, 9), 3);
        Due.equal("open windows", some.windows(1, false), 5);
        Due.equal("push that closes two", Feed.push(some, 0, 40, 9), 3);
        Due.equal("push that closes two", Feed.push(some, 0, 50, 9), 3);
        Due.equal("push that closes one", Feed.push(some, 0, 60, 9), 2);
        Rows.equal(some, 1, new long[] {10, 1, 0, 1, 5}, new long[] {10, 3, 0, 1, 6}, new long[] {20, 0, 10, 1, 15},
                new long[] {20, 4, 10, 1, 16}, new long[] {30, 2, 20, 1, 25}, new long[] {30, 5, 20, 1, 26},
                new long[] {40, 9, 30, 1, 30});
    }

    private static void windowsThatStayKeepTheirRows() {
        Due.sentence("Windows whose end and m together are not greater than the watermark are gone then: the others keep all rows");
        StreamDesk desk = Feed.desk("source s(k, a) delay 10 step w = window s by k every 10 late 2 (c = count, x = sum a, l = least a,"
                + " m = most a)");
        int[] times = {5, 11, 21, 12, 22, 23};
        for (int i = 0; i < times.length; i++) {
            Feed.push(desk, 0, times[i], 7, i + 1);
        }
        Due.equal("push behind the end of the first window", Feed.push(desk, 0, 20, 8, 0), 1);
        Due.equal("closed windows: the first one is gone", desk.windows(1, true), 0);
        Due.equal("open windows", desk.windows(1, false), 3);
        Due.equal("push into one that stays", Feed.push(desk, 0, 13, 7, -9), 1);
        Due.equal("push into one that stays", Feed.push(desk, 0, 25, 7, 100), 1);
        Due.equal("push that closes one", Feed.push(desk, 0, 31, 8, 0), 2);
        Due.equal("push into a closed one that is there", Feed.push(desk, 0, 14, 7, 50), 2);
        Due.equal("push that closes two", Feed.push(desk, 0, 40, 8, 0), 3);
        Rows.equal(desk, 1, new long[] {10, 7, 0, 1, 1, 1, 1}, new long[] {20, 7, 10, 3, -3, -9, 4},
                new long[] {20, 7, 10, 4, 47, -9, 50}, new long[] {30, 7, 20, 4, 114, 3, 100}, new long[] {30, 8, 20, 1, 0, 0, 0});
    }

    private static void rowOfAWindow() {
        Due.sentence("The row of a window has its end as time; k; its begin; and for each total");
        StreamDesk desk = Feed.desk("source s(a, k) step w = window s by k every 10 (l = last a, c = count, m = most a, x = sum a)"
                + " step v = window s by k every 10 (x = least a)");
        Feed.push(desk, 0, 14, 3, 8);
        Feed.push(desk, 0, 11, 5, 8);
        Feed.push(desk, 0, 12, 4, 8);
        Feed.push(desk, 0, 20, 0, 0);
        Rows.equal(desk, 1, new long[] {20, 8, 10, 4, 3, 5, 12});
        Rows.equal(desk, 2, new long[] {20, 8, 10, 3});
    }

    private static void totalsOverAllRows() {
        Due.sentence("over all rows in it: count: how many; sum, least, most: of the numbers of the expression;"
                + " last: the number of the one that came in last");
        StreamDesk desk = Feed.desk("source s(a, k) step v = window s by k every 1000 (c = count, x = sum a * 2, l = least a * 2,"
                + " m = most a * 2) step w = window s by k every 1000 (l = last a - time, m = least -a, n = most -a, x = sum time)");
        int sum = 0;
        for (int i = 0; i < 100; i++) {
            int a = (i * 37 + 50) % 100;
            sum += a;
            Feed.push(desk, 0, i * 9 % 100, a, 4);
        }
        Feed.push(desk, 0, 1000, 0, 4);
        Rows.equal(desk, 1, new long[] {1000, 4, 0, 100, 2 * sum, 0, 198});
        Rows.equal(desk, 2, new long[] {1000, 4, 0, (99 * 37 + 50) % 100 - 99 * 9 % 100, -99, 0, 4950});
    }

    private static void totalsOfOneRow() {
        Due.sentence("for each total, over all rows in it: also if a window of other rows was there before at its place");
        StreamDesk desk = Feed.desk("source s(a, k) step w = window s by k every 10 (x = sum a, l = least a, m = most a, n = last a)"
                + " step v = window s by k every 10 (c = count)");
        int[] numbers = {5, -7, 3, 100, 0};
        for (int i = 0; i < numbers.length; i++) {
            Feed.push(desk, 0, i * 10, numbers[i], 1);
        }
        for (int i = 0; i < numbers.length - 1; i++) {
            for (int column = 2; column < 6; column++) {
                Due.equal("total " + column + " of window " + i, desk.cell(1, i, column), numbers[i]);
            }
            Due.equal("count of window " + i, desk.cell(2, i, 2), 1);
        }
    }

    /** A desk with so many open windows from 20 to 30, of the numbers from 0 on. */
    private static StreamDesk open(int windows, String late) {
        StreamDesk desk = Feed.desk("source s(k) step w = window s by k every 10" + late + " (c = count)");
        for (int k = 0; k < windows; k++) {
            Feed.push(desk, 0, 20, k);
        }
        Due.equal("open windows", desk.windows(1, false), windows);
        Due.equal("lost", desk.lost(), 0);
        return desk;
    }

    private static void sixtyWindows() {
        Due.sentence("A step has at most 60 windows; a row that would make one more is lost, and nothing comes of it.");
        StreamDesk desk = open(59, "");
        Due.equal("push: the 60th", Feed.push(desk, 0, 29, 59), 1);
        Due.equal("open windows", desk.windows(1, false), 60);
        Due.equal("lost", desk.lost(), 0);
        Due.equal("push: a 61st by its number", Feed.push(desk, 0, 29, 60), 1);
        Due.equal("push: a 61st by its time", Feed.push(desk, 0, 29, -1), 1);
        Due.equal("open windows", desk.windows(1, false), 60);
        Due.equal("lost", desk.lost(), 2);
        Due.equal("held rows", desk.count(5), 0);
        Due.equal("push into the first one", Feed.push(desk, 0, 20, 0), 1);
        Due.equal("push into the last one", Feed.push(desk, 0, 20, 59), 1);
        Due.equal("lost", desk.lost(), 2);
        Due.equal("push that closes all of them, and is lost itself", Feed.push(desk, 0, 30, 7), 61);
        Due.equal("lost", desk.lost(), 3);
        Due.equal("windows", desk.windows(1, true) + desk.windows(1, false), 0);
        Due.equal("count of the first one", desk.cell(1, 0, 2), 2);
        Due.equal("count of another one", desk.cell(1, 1, 2), 1);
        Due.equal("count of the last one", desk.cell(1, 59, 2), 2);
    }

    private static void sixtyWindowsClosedOnesToo() {
        Due.sentence("A step has at most 60 windows: open and closed ones together");
        StreamDesk desk = open(30, " late 1000");
        for (int k = 0; k < 29; k++) {
            Feed.push(desk, 0, 30, k);
        }
        Due.equal("windows", desk.windows(1, true) * 100 + desk.windows(1, false), 3029);
        Due.equal("push: a late row makes the 60th", Feed.push(desk, 0, 5, 1), 2);
        Due.equal("windows", desk.windows(1, true) * 100 + desk.windows(1, false), 3129);
        Due.equal("push: a 61st", Feed.push(desk, 0, 35, 29), 1);
        Due.equal("push: a 61st by a late row", Feed.push(desk, 0, 5, 2), 1);
        Due.equal("lost", desk.lost(), 2);
        Due.equal("windows", desk.windows(1, true) * 100 + desk.windows(1, false), 3129);
    }

    private static void lateRowWithoutRoom() {
        Due.sentence("a row that would make one more is lost, and nothing comes of it: also a late one");
        for (int windows : new int[] {59, 60}) {
            StreamDesk desk = open(windows, " late 15");
            Due.equal("push of a late row", Feed.push(desk, 0, 5, 7), windows == 59 ? 2 : 1);
            Due.equal("lost", desk.lost(), windows == 59 ? 0 : 1);
            Due.equal("rows", desk.rows(1), windows == 59 ? 1 : 0);
            Due.equal("closed windows", desk.windows(1, true), windows == 59 ? 1 : 0);
        }
    }

    private static void heldRowNeedsNoWindow() {
        Due.sentence("Otherwise it is held: it would make no window");
        StreamDesk desk = open(60, " late 5");
        Due.equal("push of a row that is too late", Feed.push(desk, 0, 5, 7), 1);
        Due.equal("lost", desk.lost(), 0);
        Due.equal("held rows", desk.count(5), 1);
    }

    private static void sixtyWindowsOfEachStep() {
        Due.sentence("A step has at most 60 windows: each step by itself");
        StreamDesk desk = Feed.desk("source s(k, l) step v = window s by k every 10 (c = count) step w = window s by l every 10 (c = count)");
        for (int k = 0; k < 60; k++) {
            Feed.push(desk, 0, 0, k, k);
        }
        Due.equal("push", Feed.push(desk, 0, 0, 60, 0), 1);
        Due.equal("lost", desk.lost(), 1);
        Due.equal("push", Feed.push(desk, 0, 0, 60, 60), 1);
        Due.equal("lost", desk.lost(), 3);
        Due.equal("open windows", desk.windows(1, false) + desk.windows(2, false), 120);
        Due.equal("push that closes all", Feed.push(desk, 0, 10, 0, 0), 121);
    }

    private static void releasedRowWithoutRoom() {
        Due.sentence("a row that would make one more is lost (also one that is released), and nothing comes of it");
        for (int windows : new int[] {58, 59, 60}) {
            StreamDesk desk = Feed.desk("source s(k) step w = window s by k every 10 (c = count) step x = keep w where 1");
            Feed.push(desk, 0, 20, 0);
            Feed.push(desk, 0, 9, 7);
            for (int k = 1; k < windows; k++) {
                Feed.push(desk, 0, 20, k);
            }
            Due.equal("open windows", desk.windows(1, false), windows);
            Due.equal("release", desk.release(0), windows < 60 ? 2 : 0);
            Due.equal("lost", desk.lost(), windows < 60 ? 0 : 1);
            Due.equal("held rows", desk.count(5), 0);
            Due.equal("open windows", desk.windows(1, false), windows);
            Due.equal("closed windows", desk.windows(1, true), 0);
            Due.equal("entries", desk.count(3), windows + 2);
        }
    }

    private static void roomBehindThoseThatAreGone() {
        Due.sentence("Windows .. are gone then: there is room for as many others");
        StreamDesk desk = open(60, " late 5");
        Due.equal("push that closes", Feed.push(desk, 0, 34, 0), 61);
        Due.equal("lost: it came ahead of (c)", desk.lost(), 1);
        Due.equal("push, closed ones are there yet", Feed.push(desk, 0, 34, 0), 1);
        Due.equal("lost", desk.lost(), 2);
        Due.equal("push that makes them be gone", Feed.push(desk, 0, 35, 0), 1);
        Due.equal("lost", desk.lost(), 3);
        Due.equal("windows", desk.windows(1, true) + desk.windows(1, false), 0);
        for (int k = 0; k < 60; k++) {
            Feed.push(desk, 0, 35, k);
        }
        Due.equal("windows", desk.windows(1, true) + desk.windows(1, false), 60);
        Due.equal("lost", desk.lost(), 3);
    }

    private static void windowWithChecks() {
        Due.sentence("the stream would get its row: its checks are looked at");
        StreamDesk desk = Feed.desk("source s(k) step w = window s by k every 10 late 5 (c = count) check w: c <> 2 else hold"
                + " check w: k <> 3 else drop check w: begin or time = 10 else stop");
        Feed.push(desk, 0, 0, 1);
        Feed.push(desk, 0, 0, 2);
        Feed.push(desk, 0, 0, 2);
        Feed.push(desk, 0, 0, 3);
        Due.equal("push that closes three", Feed.push(desk, 0, 14, 9), 2);
        Rows.equal(desk, 1, new long[] {10, 1, 0, 1});
        Rows.heldEqual(desk, 0, 1, 0, 10, 2, 0, 2);
        Due.equal("broken", desk.broken(0) * 10 + desk.broken(1), 11);
        Due.equal("push of a late row whose window's row is held", Feed.push(desk, 0, 9, 1), 1);
        Due.equal("push of a late row", Feed.push(desk, 0, 9, 1), 2);
        Due.equal("release: taken as it was held", desk.release(0), 1);
        Rows.equal(desk, 1, new long[] {10, 1, 0, 1}, new long[] {10, 1, 0, 3}, new long[] {10, 2, 0, 2});
    }

    /** Each row comes into one window or gives one row at once, so that a full input gives no more than 200. */
    private static void twoHundredRowsOfAWindow() {
        Due.sentence("the stream would get its row; if it has 200 rows already, the row is lost: 200 rows of a window");
        StreamDesk desk = Feed.desk("source s(a) step p = make s with k = 0 step q = make s with k = 1 step m = merge p, q"
                + " step w = window m by k every 1 (c = count) step x = keep w where 1");
        for (int time = 0; time < 100; time++) {
            Due.equal("push", Feed.push(desk, 0, time, 9), time > 0 ? 9 : 5);
        }
        Due.equal("rows of the input", desk.rows(3), 200);
        Due.equal("rows", desk.rows(4), 198);
        Due.equal("push that closes two", Feed.push(desk, 0, 100, 9), 7);
        Due.equal("rows", desk.rows(4), 200);
        Due.equal("rows", desk.rows(5), 200);
        Due.equal("lost by the input alone", desk.lost(), 2);
        Due.equal("open windows", desk.windows(4, false), 0);
    }

    private static void stopWithinARound() {
        Due.sentence("While the desk is stopped, nothing can be pushed; a round that began goes on to its end.");
        StreamDesk desk = Feed.desk("source s(k) check s: k <> 5 else stop step m = merge s, s check m: k <> 6 else stop"
                + " step w = window s by k every 10 (c = count) check w: k <> 7 else stop step x = keep w where 1 step y = keep s where 1");
        for (int k : new int[] {1, 7, 8}) {
            Feed.push(desk, 0, 0, k);
        }
        Due.equal("push that stops in m, and closes three", Feed.push(desk, 0, 10, 6), 6);
        Due.equal("held rows", desk.count(5), 3);
        Due.yes("stopped", desk.isStopped());
        Due.equal("rows of x", desk.rows(3), 2);
        Due.equal("rows of y", desk.rows(4), 4);
        desk.go();
        Due.equal("push that stops in s, and closes one", Feed.push(desk, 0, 20, 5), 2);
        Due.yes("stopped", desk.isStopped());
        Due.equal("watermark of the last step", desk.watermark(4), 20);
    }

    private static void nothingIsPushedWhileStopped() {
        Due.sentence("While the desk is stopped, nothing can be pushed");
        StreamDesk desk = Feed.desk("source s(k) source t(k) check s: k else stop");
        Feed.push(desk, 0, 0, 0);
        desk.value(1);
        for (int source = 0; source < 2; source++) {
            int s = source;
            Due.thrown(desk, "push", IllegalStateException.class, () -> desk.push(s, 0));
        }
        Due.equal("discard", desk.discard(0), 0);
        Due.yes("stopped behind discard", desk.isStopped());
        Due.thrown(desk, "push", IllegalStateException.class, () -> desk.push(1, 0));
        Due.equal("go", desk.go(), 0);
        Due.equal("push", desk.push(1, 0), 1);
    }
}
