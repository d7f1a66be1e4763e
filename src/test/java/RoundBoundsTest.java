/** Section 3: watermarks, steps, and windows, with times and numbers at their bounds. */
public final class RoundBoundsTest {
    private static final long MAX = Long.MAX_VALUE;
    private static final long MIN = Long.MIN_VALUE;

    private RoundBoundsTest() {
    }

    public static void main(String[] args) {
        watermarksAtFirst();
        watermarkIsAtLeastMinusOne();
        watermarkOfTheGreatestTime();
        watermarkWhateverBecomesOfTheRow();
        watermarkOfAStep();
        rowsSinceItLookedLast();
        firstInputAheadOfSecond();
        streamThatIsBothInputs();
        stepsInAscendingOrder();
        timesOfAJoin();
        numbersOfAJoin();
        joinWithWhatWasLookedAt();
        joinWithItself();
        timesOfAFirst();
        numbersOfAFirst();
        firstIsMeasuredByWhatItGave();
        firstWhateverBecameOfIt();
        Due.end();
    }

    private static void watermarksAtFirst() {
        Due.sentence("at first all watermarks are -1");
        StreamDesk desk = Feed.desk("source s(a) source t(a) delay 1000 step k = keep s where 1 step m = merge s, t"
                + " step w = window m by a every 1 (n = count)");
        for (int s = 0; s < 5; s++) {
            Due.equal("watermark of " + s, desk.watermark(s), -1);
        }
        Feed.push(desk, 0, 0, 1);
        int[] due = {0, -1, 0, -1, -1};
        for (int s = 0; s < 5; s++) {
            Due.equal("watermark of " + s, desk.watermark(s), due[s]);
        }
    }

    private static void watermarkIsAtLeastMinusOne() {
        Due.sentence("the greatest time that was pushed to it, less its delay, but at least -1");
        for (int delay : new int[] {0, 1, 2, 10, 1000}) {
            for (int time : new int[] {0, 1, delay - 2, delay - 1, delay, delay + 1, delay + 2, 999999, 1000000}) {
                if (time < 0) {
                    continue;
                }
                StreamDesk desk = Feed.desk("source s(a) delay " + delay + " step k = keep s where 1");
                Feed.push(desk, 0, time, 1);
                Due.equal("watermark at " + time + " with delay " + delay, desk.watermark(0), Math.max(-1, time - delay));
                Due.equal("watermark of the step", desk.watermark(1), Math.max(-1, time - delay));
            }
        }
    }

    private static void watermarkOfTheGreatestTime() {
        Due.sentence("The watermark of a source is the greatest time that was pushed to it");
        StreamDesk desk = Feed.desk("source s(a) delay 10 source t(a)");
        int[] times = {20, 19, 20, 21, 0, 20, 22};
        int[] due = {10, 10, 10, 11, 11, 11, 12};
        for (int i = 0; i < times.length; i++) {
            Feed.push(desk, 0, times[i], 1);
            Due.equal("watermark behind " + times[i], desk.watermark(0), due[i]);
        }
        Due.equal("watermark of the other source", desk.watermark(1), -1);
    }

    private static void watermarkWhateverBecomesOfTheRow() {
        Due.sentence("It is reckoned at once, whatever becomes of the row.");
        String[] fates = {"drop", "hold", "stop"};
        for (String fate : fates) {
            StreamDesk desk = Feed.desk("source s(a) check s: a else " + fate + " step k = keep s where 1");
            Feed.push(desk, 0, 5, 0);
            Due.equal("watermark with " + fate, desk.watermark(0), 5);
            Due.equal("watermark of the step", desk.watermark(1), 5);
        }
        StreamDesk full = Feed.desk("source s(a) check s: a else hold step k = keep s where 1");
        for (int i = 0; i <= 60; i++) {
            Feed.push(full, 0, i, 0);
        }
        Due.equal("lost", full.lost(), 1);
        Due.equal("watermark by a lost row", full.watermark(1), 60);
        Due.equal("release", full.release(0), 2);
        Due.equal("watermark behind release", full.watermark(1), 60);
    }

    private static void watermarkOfAStep() {
        Due.sentence("(b) its watermark becomes the least one of its inputs' watermarks");
        StreamDesk desk = Feed.desk("source s(k) source t(k) step m = merge s, t step j = join t, s on k within 0 step l = keep j where 0");
        int[][] pushes = {{0, 5, -1}, {1, 4, 4}, {1, 5, 5}, {1, 6, 5}, {0, 6, 6}, {0, 9, 6}, {1, 8, 8}, {1, 0, 8}};
        for (int[] push : pushes) {
            Feed.push(desk, push[0], push[1], 1);
            for (int step = 2; step < 5; step++) {
                Due.equal("watermark of " + step + " behind " + push[1], desk.watermark(step), push[2]);
            }
        }
    }

    private static void rowsSinceItLookedLast() {
        Due.sentence("(a) each row that the first one of its inputs took since this step looked at it last, in their order");
        StreamDesk desk = Feed.desk("source s(a) check s: a <> 3 else hold step m = merge s, s step k = keep m where a <> 2");
        int[] due = {5, 3, 0, 5};
        for (int i = 0; i < 4; i++) {
            Due.equal("push of " + (i + 1), Feed.push(desk, 0, 0, i + 1), due[i]);
        }
        Due.equal("release", desk.release(0), 5);
        Rows.equal(desk, 2, new long[] {0, 1}, new long[] {0, 1}, new long[] {0, 4}, new long[] {0, 4}, new long[] {0, 3},
                new long[] {0, 3});
    }

    private static void firstInputAheadOfSecond() {
        Due.sentence("then those of the second one, if there is one");
        StreamDesk desk = Feed.desk("source s(a) step t = make s with n = 1 step u = make s with n = 2 step v = merge u, t"
                + " step w = merge v, v step x = merge t, w");
        Feed.push(desk, 0, 0, 7);
        Rows.equal(desk, 3, new long[] {0, 7, 2}, new long[] {0, 7, 1});
        Rows.equal(desk, 4, new long[] {0, 7, 2}, new long[] {0, 7, 1}, new long[] {0, 7, 2}, new long[] {0, 7, 1});
        Due.equal("the first row of x", desk.cell(5, 0, 1), 1);
        Due.equal("rows of x", desk.rows(5), 5);
    }

    private static void streamThatIsBothInputs() {
        Due.sentence("of each input by itself: a stream that is both gives its rows twice");
        StreamDesk desk = Feed.desk("source s(a) step m = merge s, s");
        Due.equal("push", Feed.push(desk, 0, 0, 1), 3);
        Due.equal("push", Feed.push(desk, 0, 0, 2), 3);
        Rows.equal(desk, 1, new long[] {0, 1}, new long[] {0, 1}, new long[] {0, 2}, new long[] {0, 2});
        Due.equal("inputs", desk.stream(1, 2) + desk.stream(1, 3), 0);
    }

    private static void stepsInAscendingOrder() {
        Due.sentence("Then, for all steps in ascending order");
        StringBuilder program = new StringBuilder("source s0(a) ");
        for (int i = 1; i < 12; i++) {
            program.append("step s").append(i).append(" = keep s").append(i - 1).append(" where a >= ").append(i).append(" ");
        }
        for (int a = 0; a <= 12; a++) {
            StreamDesk desk = Feed.desk(program.toString());
            Due.equal("push of " + a, Feed.push(desk, 0, 5, a), Math.min(12, a + 1));
            Due.equal("watermark of the last one", desk.watermark(11), 5);
        }
    }

    /** What a push to the second source yields behind one to the first, or the other way round. */
    private static void joins(int within, int timeOfS, int timeOfT, boolean isJoined) {
        for (int earlier = 0; earlier < 2; earlier++) {
            StreamDesk desk = Feed.desk("source s(k, a) source t(k, b) step j = join s, t on k within " + within);
            int[] times = {timeOfS, timeOfT};
            Feed.push(desk, earlier, times[earlier], 7, earlier);
            Due.equal("push: times " + timeOfS + ", " + timeOfT + " within " + within,
                    Feed.push(desk, 1 - earlier, times[1 - earlier], 7, 1 - earlier), isJoined ? 2 : 1);
            if (isJoined) {
                Rows.equal(desk, 2, new long[] {Math.max(timeOfS, timeOfT), 7, 0, 1});
            } else {
                Rows.equal(desk, 2);
            }
        }
    }

    private static void timesOfAJoin() {
        Due.sentence("join: and their times differ by at most n, its stream would get a row with the greater one of both times");
        for (int within : new int[] {0, 1, 2, 1000}) {
            for (int more = Math.max(0, within - 1); more <= within + 1; more++) {
                joins(within, 5, 5 + more, more <= within);
                joins(within, 5 + more, 5, more <= within);
                joins(within, 1000000, 1000000 - more, more <= within);
                joins(within, 1000000 - more, 1000000, more <= within);
            }
            joins(within, 0, 0, true);
            joins(within, 0, 1000000, false);
            joins(within, 1000000, 0, false);
        }
    }

    private static void numbersOfAJoin() {
        Due.sentence("join: If both have the same number in k");
        StreamDesk desk = Feed.desk("source s(k, a) source t(b, k) step j = join s, t on k within 0");
        long[] numbers = {MIN, MIN + 1, -1, 0, 1, 1L << 32, 1L << 32 | 1, MAX - 1, MAX};
        for (long k : numbers) {
            Due.equal("push to s", Feed.push(desk, 0, 0, k, 5), 1);
        }
        for (int i = 0; i < numbers.length; i++) {
            Due.equal("push to t", Feed.push(desk, 1, 0, 6, numbers[i]), 2);
            Due.equal("k", desk.cell(2, i, 0), numbers[i]);
        }
        Due.equal("push of another number", Feed.push(desk, 1, 0, 6, 5), 1);
        Due.equal("push of another number", Feed.push(desk, 1, 0, 6, 2), 1);
    }

    private static void joinWithWhatWasLookedAt() {
        Due.sentence("join looks at a new row of s with each row of t that it has looked at before, in their order;"
                + " and at a new row of t with each row of s (all that s has).");
        StreamDesk desk = Feed.desk("source q(k, a, b) step s = pick q (k, a) step t = pick q (k, b)"
                + " step j = join s, t on k within 1000");
        Due.equal("push", Feed.push(desk, 0, 1, 7, 1, 11), 4);
        Due.equal("push", Feed.push(desk, 0, 2, 7, 2, 12), 6);
        Due.equal("push", Feed.push(desk, 0, 3, 7, 3, 13), 8);
        Rows.equal(desk, 3, new long[] {1, 7, 1, 11}, new long[] {2, 7, 2, 11}, new long[] {2, 7, 1, 12}, new long[] {2, 7, 2, 12},
                new long[] {3, 7, 3, 11}, new long[] {3, 7, 3, 12}, new long[] {3, 7, 1, 13}, new long[] {3, 7, 2, 13},
                new long[] {3, 7, 3, 13});
    }

    private static void joinWithItself() {
        Due.sentence("join: a stream that is both gives its rows twice");
        StreamDesk desk = Feed.desk("source s(k) step j = join s, s on k within 1");
        Due.equal("push", Feed.push(desk, 0, 1, 7), 2);
        Due.equal("push", Feed.push(desk, 0, 2, 7), 4);
        Due.equal("push: too far from the first one", Feed.push(desk, 0, 3, 7), 4);
        Rows.equal(desk, 1, new long[] {1, 7}, new long[] {2, 7}, new long[] {2, 7}, new long[] {2, 7}, new long[] {3, 7},
                new long[] {3, 7}, new long[] {3, 7});
    }

    private static void gives(int within, int time, int timeBehind, boolean isGiven) {
        StreamDesk desk = Feed.desk("source s(a, k) step f = first s by k within " + within);
        Due.equal("push at " + time, Feed.push(desk, 0, time, 1, 7), 2);
        Due.equal("push at " + timeBehind + " within " + within, Feed.push(desk, 0, timeBehind, 2, 7), isGiven ? 2 : 1);
        Due.equal("push of another number", Feed.push(desk, 0, timeBehind, 2, 8), 2);
    }

    private static void timesOfAFirst() {
        Due.sentence("first would give its stream a row, if it has given it none before .. whose time differs by at most n");
        for (int within : new int[] {0, 1, 2, 1000}) {
            for (int more = Math.max(0, within - 1); more <= within + 1; more++) {
                gives(within, 5, 5 + more, more > within);
                gives(within, 5 + more, 5, more > within);
                gives(within, 1000000, 1000000 - more, more > within);
                gives(within, 1000000 - more, 1000000, more > within);
            }
            gives(within, 0, 0, false);
            gives(within, 0, 1000000, true);
        }
    }

    private static void numbersOfAFirst() {
        Due.sentence("first: with the same number in k");
        StreamDesk desk = Feed.desk("source s(a, k) step f = first s by k within 1000");
        long[] numbers = {MIN, MIN + 1, -1, 0, 1, 1L << 32, 1L << 32 | 1, MAX - 1, MAX};
        for (long k : numbers) {
            Due.equal("push of " + k, Feed.push(desk, 0, 0, 1, k), 2);
        }
        for (long k : numbers) {
            Due.equal("push of " + k, Feed.push(desk, 0, 1000, 2, k), 1);
        }
        for (long k : numbers) {
            Due.equal("push of " + k, Feed.push(desk, 0, 1001, 3, k), 2);
        }
    }

    private static void firstIsMeasuredByWhatItGave() {
        Due.sentence("if it has given it none before: a row that it did not give does not count");
        StreamDesk desk = Feed.desk("source s(k) step f = first s by k within 10");
        int[] times = {100, 110, 120, 121, 111, 99, 90, 89, 200, 79, 78};
        int[] due = {2, 1, 2, 1, 1, 1, 1, 2, 2, 1, 2};
        for (int i = 0; i < times.length; i++) {
            Due.equal("push at " + times[i], Feed.push(desk, 0, times[i], 1), due[i]);
        }
        // the last row of 200 is still measured by the first one
        StreamDesk full = Feed.desk("source s(k) step f = first s by k within 0");
        for (int i = 0; i < 199; i++) {
            Due.equal("push", Feed.push(full, 0, i, 1), 2);
        }
        Due.equal("push", Feed.push(full, 0, 0, 1), 1);
        Due.equal("rows", full.rows(1), 199);
        StreamDesk last = Feed.desk("source s(k) step m = merge s, s step f = first m by k within 0");
        for (int i = 0; i < 99; i++) {
            Due.equal("push", Feed.push(last, 0, i, 1), 4);
        }
        Due.equal("push: rows 199 and 200", Feed.push(last, 0, 99, 1), 4);
        Due.equal("rows of its input", last.rows(1), 200);
        Due.equal("rows", last.rows(2), 100);
    }

    private static void firstWhateverBecameOfIt() {
        Due.sentence("first: (whatever became of that one)");
        String[] fates = {"drop", "hold"};
        for (String fate : fates) {
            StreamDesk desk = Feed.desk("source s(k, a) step f = first s by k within 5 check f: a else " + fate);
            Due.equal("push that is not let through", Feed.push(desk, 0, 10, 1, 0), 1);
            Due.equal("push", Feed.push(desk, 0, 15, 1, 1), 1);
            Due.equal("push", Feed.push(desk, 0, 16, 1, 1), 2);
        }
        StreamDesk desk = Feed.desk("source s(k, a) check s: a <> 2 else hold step f = first s by k within 5 check f: a else hold");
        for (int i = 0; i < 60; i++) {
            Feed.push(desk, 0, 0, 1, 2);
        }
        Due.equal("push that is lost", Feed.push(desk, 0, 10, 1, 0), 1);
        Due.equal("lost", desk.lost(), 1);
        Due.equal("push", Feed.push(desk, 0, 15, 1, 1), 1);
        Due.equal("push", Feed.push(desk, 0, 16, 1, 1), 2);
    }
}
