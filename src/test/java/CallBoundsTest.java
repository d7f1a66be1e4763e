import java.util.function.Supplier;

/** Promises 1 to 29: arguments at their bounds, the order of exceptions, and what a refused call leaves. */
public final class CallBoundsTest {
    private static final Class<?> INDEX = IndexOutOfBoundsException.class;
    private static final Class<?> ARGUMENT = IllegalArgumentException.class;
    private static final Class<?> STATE = IllegalStateException.class;
    private static final int LEAST = Integer.MIN_VALUE;
    private static final int MOST = Integer.MAX_VALUE;

    private CallBoundsTest() {
    }

    public static void main(String[] args) {
        newObject();
        errorAtOfTheLatestCompile();
        count();
        streamsWithoutAProgram();
        streamNumbers();
        streamWhat();
        sixValues();
        forget();
        pushSource();
        pushTime();
        pushNumbers();
        pushTakesItsNumbers();
        pushReturnsAllRows();
        orderOfPush();
        cell();
        cellOfTheLastRow();
        windows();
        held();
        heldValue();
        releasePlaces();
        discardPlaces();
        orderOfReleaseAndDiscard();
        broken();
        go();
        digestOfANewObject();
        digestInItsOrder();
        digestOfALostRow();
        refusedCallsOfANewDesk();
        refusedCallsOfADeskAtWork();
        refusedCallsOfAStoppedDesk();
        refusedCallsOfAFullDesk();
        fiveHundredAndTwelveCalls();
        Due.end();
    }

    private static void newObject() {
        Due.sentence("Creates a desk without a program, with an empty tape and an empty log.");
        StreamDesk desk = new StreamDesk();
        for (int what = 0; what < 6; what++) {
            Due.equal("count(" + what + ")", desk.count(what), 0);
        }
        Due.equal("errorAt", desk.errorAt(), -1);
        Due.equal("lost", desk.lost(), 0);
        Due.no("isStopped", desk.isStopped());
        Due.equal("taken", desk.taken(), 1.0);
        Due.equal("forget", desk.forget(), 0);
        Due.equal("trim(0)", desk.trim(0), 0);
        Due.equal("find", desk.find(), -1);
    }

    private static void errorAtOfTheLatestCompile() {
        Due.sentence("Returns the position of the error of the latest compile; -1 if it had none.");
        StreamDesk desk = new StreamDesk();
        String[] programs = {"", "source s(a)", "source s(a, a)", "source s(a) #", "source s(a)", "#"};
        int[] due = {0, -1, 12, 12, -1, 0};
        for (int i = 0; i < programs.length; i++) {
            Feed.compile(desk, programs[i]);
            Due.equal("errorAt of " + programs[i], desk.errorAt(), due[i]);
            Feed.text(desk, "s");
            desk.find();
            desk.value(1);
            desk.forget();
            Due.equal("errorAt behind other calls", desk.errorAt(), due[i]);
        }
    }

    private static void count() {
        Due.sentence("Throws IndexOutOfBoundsException if what is not 0 to 5");
        StreamDesk desk = Feed.desk("source s(a)");
        for (int what : new int[] {LEAST, -2, -1, 6, 7, MOST}) {
            Due.thrown(desk, "count(" + what + ")", INDEX, () -> desk.count(what));
        }
        int[] due = {1, 0, 0, 0, 0, 0};
        for (int what = 0; what < 6; what++) {
            Due.equal("count(" + what + ")", desk.count(what), due[what]);
        }
    }

    private static void streamsWithoutAProgram() {
        Due.sentence("Throws IndexOutOfBoundsException if there is no such stream: none without a program");
        StreamDesk desk = new StreamDesk();
        for (int i : new int[] {LEAST, -1, 0, 1, 11, 12, MOST}) {
            Due.thrown(desk, "stream", INDEX, () -> desk.stream(i, 0));
            Due.thrown(desk, "push", INDEX, () -> desk.push(i, 0));
            Due.thrown(desk, "rows", INDEX, () -> desk.rows(i));
            Due.thrown(desk, "cell", INDEX, () -> desk.cell(i, 0, 0));
            Due.thrown(desk, "watermark", INDEX, () -> desk.watermark(i));
            Due.thrown(desk, "windows", INDEX, () -> desk.windows(i, false));
            Due.thrown(desk, "changed", INDEX, () -> desk.changed(i));
            Due.thrown(desk, "broken", INDEX, () -> desk.broken(i));
            Due.thrown(desk, "held", INDEX, () -> desk.held(i, 0));
            Due.thrown(desk, "heldValue", INDEX, () -> desk.heldValue(i, 0));
            Due.thrown(desk, "release", INDEX, () -> desk.release(i));
            Due.thrown(desk, "discard", INDEX, () -> desk.discard(i));
            Due.thrown(desk, "back", INDEX, () -> desk.back(i));
        }
    }

    private static void streamNumbers() {
        Due.sentence("Throws IndexOutOfBoundsException if there is no such stream");
        for (int n : new int[] {1, 3, 12}) {
            StringBuilder program = new StringBuilder();
            for (int i = 0; i < n; i++) {
                program.append("source s").append(i).append("(a) ");
            }
            StreamDesk desk = new StreamDesk();
            // twelve streams of an earlier program are there no more
            Feed.compile(desk, program + "step u = keep s0 where 1");
            Feed.compile(desk, program.toString());
            for (int s : new int[] {0, n - 1}) {
                Due.equal("stream", desk.stream(s, 0), 0);
                Due.equal("push", Feed.push(desk, s, 5, 1), 1);
                Due.equal("cell", desk.cell(s, 0, -1), 5);
                Due.equal("watermark", desk.watermark(s), 5);
                Due.equal("windows", desk.windows(s, true), 0);
                Due.equal("changed", desk.changed(s), desk.rows(s));
            }
            desk.value(1);
            for (int s : new int[] {LEAST, -1, n, n + 1, MOST}) {
                Due.thrown(desk, "stream(" + s + ", 0)", INDEX, () -> desk.stream(s, 0));
                Due.thrown(desk, "push(" + s + ", 0)", INDEX, () -> desk.push(s, 0));
                Due.thrown(desk, "rows(" + s + ")", INDEX, () -> desk.rows(s));
                Due.thrown(desk, "cell(" + s + ", 0, 0)", INDEX, () -> desk.cell(s, 0, 0));
                Due.thrown(desk, "watermark(" + s + ")", INDEX, () -> desk.watermark(s));
                Due.thrown(desk, "windows(" + s + ", true)", INDEX, () -> desk.windows(s, true));
                Due.thrown(desk, "windows(" + s + ", false)", INDEX, () -> desk.windows(s, false));
                Due.thrown(desk, "changed(" + s + ")", INDEX, () -> desk.changed(s));
            }
        }
    }

    private static void streamWhat() {
        Due.sentence("0 what it is ..; 1 its number of columns; 2 the number of its first input, -1 if there is none;"
                + " 3 that of its second input, -1 if there is none. Throws if .. what is not 0 to 3");
        String before = "source q(z, y) source r(z, x) step a = merge q, q step b = join r, q on z within 0";
        String program = "source s(k, a) source t(k, b) step b = keep t where 1 step c = make s with d = 1 step d = pick c (d)"
                + " step e = merge t, b step f = join c, t on k within 0 step g = first f by k within 0"
                + " step h = window g by k every 1 (n = count, m = count) source i(a, b, c, d, e, f)";
        int[][] due = {{0, 2, -1, -1}, {0, 2, -1, -1}, {1, 2, 1, -1}, {2, 3, 0, -1}, {3, 1, 3, -1}, {4, 2, 1, 2}, {5, 4, 3, 1},
            {6, 4, 6, -1}, {7, 4, 7, -1}, {0, 6, -1, -1}};
        for (int earlier = 0; earlier < 4; earlier++) {
            StreamDesk desk = new StreamDesk();
            for (int i = 0; i < earlier; i++) {
                Due.equal("compile", Feed.compile(desk, before), 0);
            }
            Due.equal("compile", Feed.compile(desk, program), 0);
            for (int s = 0; s < due.length; s++) {
                for (int what = 0; what < 4; what++) {
                    Due.equal("stream(" + s + ", " + what + ")", desk.stream(s, what), due[s][what]);
                }
                int stream = s;
                for (int what : new int[] {LEAST, -1, 4, MOST}) {
                    Due.thrown(desk, "stream(" + s + ", " + what + ")", INDEX, () -> desk.stream(stream, what));
                }
            }
        }
    }

    private static void sixValues() {
        Due.sentence("Throws IllegalStateException if there are 6");
        StreamDesk desk = Feed.desk("source s(a, b, c, d, e, f)");
        long[] numbers = {Long.MIN_VALUE, -1, 0, 1, 1L << 40, Long.MAX_VALUE};
        for (int i = 0; i < 6; i++) {
            Due.equal("value", desk.value(numbers[i]), i + 1);
        }
        Due.thrown(desk, "a seventh value", STATE, () -> desk.value(0));
        Due.thrown(desk, "an eighth value", STATE, () -> desk.value(Long.MAX_VALUE));
        Due.equal("push", desk.push(0, 3), 1);
        Rows.equal(desk, 0, new long[] {3, Long.MIN_VALUE, -1, 0, 1, 1L << 40, Long.MAX_VALUE});
        Due.equal("value behind push", desk.value(9), 1);
    }

    private static void forget() {
        Due.sentence("Forgets the numbers that were appended. Returns how many there were.");
        StreamDesk desk = Feed.desk("source s(a)");
        for (int n = 0; n <= 6; n++) {
            for (int i = 0; i < n; i++) {
                desk.value(i + 100);
            }
            Due.equal("forget " + n, desk.forget(), n);
            Due.equal("forget again", desk.forget(), 0);
        }
        desk.value(5);
        Due.equal("push of what came behind", desk.push(0, 0), 1);
        Due.equal("number", desk.cell(0, 0, 0), 5);
    }

    private static void pushSource() {
        Due.sentence("Throws IllegalArgumentException if it is no source");
        StreamDesk desk = Feed.desk("source s(a) step k = keep s where 1 step m = make s with b = 1 step p = pick s (a) step n = merge s, s"
                + " step j = join s, s on a within 1 step f = first s by a within 1 step w = window s by a every 1 (c = count) source t(a)");
        desk.value(1);
        for (int s = 1; s <= 7; s++) {
            int step = s;
            Due.thrown(desk, "push to " + s, ARGUMENT, () -> desk.push(step, 0));
        }
        Due.equal("push to the first source", desk.push(0, 0), 8);
        desk.value(1);
        Due.equal("push to the last source", desk.push(8, 0), 1);
    }

    private static void pushTime() {
        Due.sentence("Throws IllegalArgumentException if .. time is not 0 to 1000000");
        StreamDesk desk = Feed.desk("source s(a)");
        desk.value(1);
        for (int time : new int[] {LEAST, -1000000, -1, 1000001, 1000002, MOST}) {
            Due.thrown(desk, "push at " + time, ARGUMENT, () -> desk.push(0, time));
        }
        for (int time : new int[] {0, 1, 999999, 1000000}) {
            Due.equal("push at " + time, desk.push(0, time), 1);
            Due.equal("time", desk.cell(0, desk.rows(0) - 1, -1), time);
            desk.value(1);
        }
    }

    private static void pushNumbers() {
        Due.sentence("Throws IllegalArgumentException if .. there are not as many numbers as it has columns");
        String names = "a, b, c, d, e, f";
        for (int columns = 1; columns <= 6; columns++) {
            for (int n = 0; n <= 6; n++) {
                StreamDesk desk = Feed.desk("source s(" + names.substring(0, columns * 3 - 2) + ")");
                for (int i = 0; i < n; i++) {
                    desk.value(i);
                }
                if (n == columns) {
                    Due.equal("push of " + n, desk.push(0, 0), 1);
                    Due.equal("numbers behind push", desk.forget(), 0);
                } else {
                    Due.thrown(desk, "push of " + n + " to " + columns, ARGUMENT, () -> desk.push(0, 0));
                    Due.equal("numbers behind a refused push", desk.forget(), n);
                }
            }
        }
    }

    private static void pushTakesItsNumbers() {
        Due.sentence("Pushes a row with the numbers that were appended, which are gone then.");
        String[] fates = {"drop", "hold", "stop"};
        for (String fate : fates) {
            StreamDesk desk = Feed.desk("source s(a, b) check s: a else " + fate);
            Due.equal("push", Feed.push(desk, 0, 0, 0, 1), 0);
            Due.equal("numbers behind a push that is not let through", desk.forget(), 0);
        }
    }

    private static void pushReturnsAllRows() {
        Due.sentence("Returns how many rows all streams took in this round.");
        StreamDesk desk = Feed.desk("source s(a) check s: a else hold step m = merge s, s step n = merge m, m check n: a <> 3 else hold"
                + " step o = keep n where a <> 2");
        int[] due = {0, 11, 7, 3, 11};
        for (int a = 0; a < 5; a++) {
            Due.equal("push of " + a, Feed.push(desk, 0, 0, a), due[a]);
        }
        Due.equal("release of the first row", desk.release(0), 11);
        Due.equal("release of a row of n", desk.release(0), 2);
    }

    private static void orderOfPush() {
        Due.sentence("If several exceptions apply, the one that is named first is thrown: push");
        StreamDesk desk = Feed.desk("source s(a) step k = keep s where 1 check s: a else stop");
        for (int i = 0; i < 199; i++) {
            Feed.push(desk, 0, 0, 1);
        }
        Feed.push(desk, 0, 0, 0);
        Due.yes("stopped", desk.isStopped());
        Due.equal("entries", desk.count(3), 200);
        Due.thrown(desk, "no stream, wrong time, no numbers, stopped, full", INDEX, () -> desk.push(2, -1));
        Due.thrown(desk, "no stream, stopped, full", INDEX, () -> desk.push(-1, 0));
        Due.thrown(desk, "no source, stopped, full", ARGUMENT, () -> desk.push(1, 0));
        Due.thrown(desk, "no numbers, stopped, full", ARGUMENT, () -> desk.push(0, 0));
        desk.value(1);
        Due.thrown(desk, "wrong time, stopped, full", ARGUMENT, () -> desk.push(0, -1));
        Due.thrown(desk, "wrong time, stopped, full", ARGUMENT, () -> desk.push(0, 1000001));
        Due.thrown(desk, "no source, stopped, full", ARGUMENT, () -> desk.push(1, 0));
        Due.thrown(desk, "stopped, full", STATE, () -> desk.push(0, 0));
        desk.value(1);
        Due.thrown(desk, "two numbers, stopped, full", ARGUMENT, () -> desk.push(0, 0));
        Due.equal("numbers", desk.forget(), 2);
    }

    private static void cell() {
        Due.sentence("Throws IndexOutOfBoundsException if there is no such stream, row or column; column: from 0; -1 for the time");
        StreamDesk desk = Feed.desk("source s(a, b) source t(a, b, c, d, e, f) source u(a)");
        Feed.push(desk, 0, 3, 4, 5);
        Feed.push(desk, 0, 6, 7, 8);
        Feed.push(desk, 1, 9, 1, 2, 3, 4, 5, 6);
        for (int row : new int[] {LEAST, -1, 2, 199, 200, MOST}) {
            for (int column : new int[] {-1, 0, 1}) {
                Due.thrown(desk, "cell(0, " + row + ", " + column + ")", INDEX, () -> desk.cell(0, row, column));
            }
        }
        for (int column : new int[] {LEAST, -2, 2, 6, MOST}) {
            Due.thrown(desk, "cell(0, 1, " + column + ")", INDEX, () -> desk.cell(0, 1, column));
        }
        for (int column : new int[] {-2, 6}) {
            Due.thrown(desk, "cell(1, 0, " + column + ")", INDEX, () -> desk.cell(1, 0, column));
        }
        Due.thrown(desk, "cell of a stream without rows", INDEX, () -> desk.cell(2, 0, 0));
        Due.thrown(desk, "time of a stream without rows", INDEX, () -> desk.cell(2, 0, -1));
        Rows.equal(desk, 0, new long[] {3, 4, 5}, new long[] {6, 7, 8});
        Rows.equal(desk, 1, new long[] {9, 1, 2, 3, 4, 5, 6});
    }

    private static void cellOfTheLastRow() {
        Due.sentence("cell: row: a row; numbered from 0, up to 200 of them");
        StreamDesk desk = Feed.desk("source s(a, b, c, d, e, f)");
        for (int i = 0; i < 200; i++) {
            Feed.push(desk, 0, i, i, i, i, i, i, -i);
        }
        Due.equal("rows", desk.rows(0), 200);
        for (int row : new int[] {0, 1, 198, 199}) {
            Due.equal("time", desk.cell(0, row, -1), row);
            Due.equal("first number", desk.cell(0, row, 0), row);
            Due.equal("last number", desk.cell(0, row, 5), -row);
        }
        Due.thrown(desk, "cell(0, 200, 0)", INDEX, () -> desk.cell(0, 200, 0));
    }

    private static void windows() {
        Due.sentence("Returns how many windows it has; 0 if it is no window.");
        StreamDesk desk = Feed.desk("source s(a) step w = window s by a every 10 late 10 (n = count) step k = keep w where 1");
        int[][] due = {{0, 1, 0}, {9, 1, 0}, {10, 1, 1}, {19, 1, 1}, {20, 1, 1}, {40, 1, 0}};
        Due.equal("windows at first", desk.windows(1, true) + desk.windows(1, false), 0);
        for (int[] at : due) {
            Feed.push(desk, 0, at[0], 7);
            Due.equal("open windows at " + at[0], desk.windows(1, false), at[1]);
            Due.equal("closed windows at " + at[0], desk.windows(1, true), at[2]);
            Due.equal("windows of others", desk.windows(0, true) + desk.windows(0, false) + desk.windows(2, true)
                    + desk.windows(2, false), 0);
        }
        // a stream that was a window in an earlier program has none any more
        Feed.compile(desk, "source s(a) step w = keep s where 1 step k = keep w where 1");
        Feed.compile(desk, "source s(a) step w = keep s where 1 step k = keep w where 1");
        Feed.compile(desk, "source s(a) step w = keep s where 1 step k = keep w where 1");
        Due.equal("windows", desk.windows(1, true) + desk.windows(1, false), 0);
    }

    private static StreamDesk holding(int rows) {
        StreamDesk desk = Feed.desk("source s(a, b) check s: a else hold");
        for (int i = 0; i < rows; i++) {
            Feed.push(desk, 0, i, 0, i);
        }
        return desk;
    }

    private static void held() {
        Due.sentence("held: Throws IndexOutOfBoundsException if there is no such held row, or what is not 0 to 2");
        for (int n : new int[] {0, 1, 59, 60}) {
            StreamDesk desk = holding(n);
            for (int place : new int[] {LEAST, -1, n, n + 1, 60, MOST}) {
                for (int what = 0; what < 3; what++) {
                    int w = what;
                    Due.thrown(desk, "held(" + place + ", " + what + ") of " + n, INDEX, () -> desk.held(place, w));
                }
            }
            if (n > 0) {
                for (int what : new int[] {LEAST, -1, 3, MOST}) {
                    Due.thrown(desk, "held(0, " + what + ")", INDEX, () -> desk.held(0, what));
                }
                Rows.heldEqual(desk, 0, 0, 0, 0, 0, 0);
                Rows.heldEqual(desk, n - 1, 0, 0, n - 1, 0, n - 1);
            }
        }
    }

    private static void heldValue() {
        Due.sentence("heldValue: Throws IndexOutOfBoundsException if there is no such held row or column");
        for (int n : new int[] {0, 1, 59, 60}) {
            StreamDesk desk = holding(n);
            for (int place : new int[] {LEAST, -1, n, n + 1, 60, MOST}) {
                Due.thrown(desk, "heldValue(" + place + ", 0) of " + n, INDEX, () -> desk.heldValue(place, 0));
            }
            if (n > 0) {
                for (int column : new int[] {LEAST, -2, -1, 2, 5, 6, MOST}) {
                    Due.thrown(desk, "heldValue(0, " + column + ")", INDEX, () -> desk.heldValue(0, column));
                }
                Due.equal("heldValue", desk.heldValue(n - 1, 1), n - 1);
            }
        }
        StreamDesk desk = Feed.desk("source s(a, b, c, d, e, f) check s: 0 else hold");
        Feed.push(desk, 0, 0, 1, 2, 3, 4, 5, 6);
        Due.equal("the last number", desk.heldValue(0, 5), 6);
        Due.thrown(desk, "heldValue(0, 6)", INDEX, () -> desk.heldValue(0, 6));
    }

    private static void releasePlaces() {
        Due.sentence("release: Throws IndexOutOfBoundsException if there is no such held row");
        for (int n : new int[] {0, 1, 2, 59, 60}) {
            StreamDesk desk = holding(n);
            for (int place : new int[] {LEAST, -1, n, n + 1, 60, MOST}) {
                Due.thrown(desk, "release(" + place + ") of " + n, INDEX, () -> desk.release(place));
            }
            if (n > 0) {
                Due.equal("release of the last one", desk.release(n - 1), 1);
                Due.thrown(desk, "release of it again", INDEX, () -> desk.release(n - 1));
            }
            if (n > 1) {
                Due.equal("release of the first one", desk.release(0), 1);
                Rows.equal(desk, 0, new long[] {n - 1, 0, n - 1}, new long[] {0, 0, 0});
            }
        }
    }

    private static void discardPlaces() {
        Due.sentence("discard: Throws IndexOutOfBoundsException if there is no such held row. Returns its reason.");
        for (int n : new int[] {0, 1, 2, 59, 60}) {
            StreamDesk desk = holding(n);
            for (int place : new int[] {LEAST, -1, n, n + 1, 60, MOST}) {
                Due.thrown(desk, "discard(" + place + ") of " + n, INDEX, () -> desk.discard(place));
            }
            if (n > 0) {
                Due.equal("discard of the last one", desk.discard(n - 1), 0);
                Due.thrown(desk, "discard of it again", INDEX, () -> desk.discard(n - 1));
            }
        }
        StreamDesk desk = Feed.desk("source s(a) " + "check s: 1 else drop ".repeat(7) + "check s: a else stop"
                + " step w = window s by a every 1 (n = count)");
        Feed.push(desk, 0, 9, 1);
        Feed.push(desk, 0, 0, 1);
        Feed.push(desk, 0, 0, 0);
        Due.equal("discard of a row that broke the eighth check", desk.discard(1), 7);
        Due.equal("discard of a late row", desk.discard(0), -1);
    }

    private static void orderOfReleaseAndDiscard() {
        Due.sentence("If several exceptions apply, the one that is named first is thrown: release and discard");
        StreamDesk desk = Feed.desk("source s(a) check s: a else hold");
        Feed.push(desk, 0, 0, 0);
        for (int i = 0; i < 199; i++) {
            Feed.push(desk, 0, 0, 1);
        }
        for (int place : new int[] {LEAST, -1, 1, MOST}) {
            Due.thrown(desk, "release of no row with a full log", INDEX, () -> desk.release(place));
            Due.thrown(desk, "discard of no row with a full log", INDEX, () -> desk.discard(place));
        }
        Due.thrown(desk, "release with a full log", STATE, () -> desk.release(0));
        Due.thrown(desk, "discard with a full log", STATE, () -> desk.discard(0));
    }

    private static void broken() {
        Due.sentence("broken: Throws IndexOutOfBoundsException if there is no such check");
        for (int n : new int[] {0, 1, 7, 8}) {
            StreamDesk desk = new StreamDesk();
            Feed.compile(desk, "source s(a) " + "check s: a else drop ".repeat(8));
            Feed.compile(desk, "source s(a) " + "check s: a else drop ".repeat(n));
            Feed.push(desk, 0, 0, 0);
            for (int check : new int[] {LEAST, -1, n, n + 1, MOST}) {
                Due.thrown(desk, "broken(" + check + ") of " + n, INDEX, () -> desk.broken(check));
            }
            for (int check = 0; check < n; check++) {
                Due.equal("broken(" + check + ")", desk.broken(check), check == 0 ? 1 : 0);
            }
        }
    }

    private static void go() {
        Due.sentence("go: Throws IllegalStateException if it is not stopped. Returns the number of held rows.");
        StreamDesk none = new StreamDesk();
        Due.thrown(none, "go without a program", STATE, none::go);
        StreamDesk desk = Feed.desk("source s(a) check s: a <> 1 else hold check s: a else stop");
        Due.thrown(desk, "go", STATE, desk::go);
        Feed.push(desk, 0, 0, 1);
        Due.thrown(desk, "go with a held row", STATE, desk::go);
        Feed.push(desk, 0, 0, 0);
        Due.equal("go", desk.go(), 2);
        Due.thrown(desk, "go again", STATE, desk::go);
        Feed.push(desk, 0, 0, 0);
        desk.discard(0);
        desk.discard(0);
        desk.discard(0);
        Due.equal("go without held rows", desk.go(), 0);
    }

    private static void digestOfANewObject() {
        Due.sentence("A number d starts with 281; .. what count() tells, in its order; 1 if the desk is stopped, else 0; the lost rows");
        Due.equal("digest of a new object", new StreamDesk().digest(), mixed(0, 0, 0, 0, 0, 0, 0, 0));
        StreamDesk desk = new StreamDesk();
        desk.feed(0, 0, 0, 0, 0);
        Due.equal("digest with a tape", desk.digest(), mixed(0, 0, 20, 0, 0, 0, 0, 0));
        desk.value(5);
        Due.equal("digest with a number of the next row", desk.digest(), mixed(0, 0, 20, 0, 0, 0, 0, 0));
        desk.compile();
        Due.equal("digest behind a wrong program", desk.digest(), mixed(0, 0, 0, 0, 0, 0, 0, 0));
    }

    private static void digestInItsOrder() {
        Due.sentence("for each stream its watermark, the number of its rows, and for each of these its time and its numbers;"
                + " for each held row what held() tells, in its order, and its numbers");
        StreamDesk desk = Feed.desk("source s(a, b) source t(c) delay 5 check s: a else hold check t: c else stop"
                + " step w = window s by a every 10 (n = count)");
        Due.equal("digest", desk.digest(), mixed(3, 2, 0, 0, 0, 0, 0, 0, -1, 0, -1, 0, -1, 0));
        Feed.push(desk, 0, 12, 3, 4);
        Feed.push(desk, 0, 0, 0, -1);
        Feed.push(desk, 0, 25, -5, Long.MIN_VALUE);
        Feed.push(desk, 0, 9, 6, 7);
        Feed.push(desk, 1, 8, 0);
        desk.mark();
        desk.mark();
        desk.feed(1, 2, 3, 4, 5);
        Due.equal("digest", desk.digest(), mixed(3, 2, 20, 5, 2, 3, 1, 0,
                25, 3, 12, 3, 4, 25, -5, Long.MIN_VALUE, 9, 6, 7, 3, 0, 25, 1, 20, 3, 10, 1,
                0, 0, 0, 0, -1, 2, -1, 9, 6, 7, 1, 1, 8, 0));
    }

    private static void digestOfALostRow() {
        Due.sentence("digest: 1 if the desk is stopped, else 0; the lost rows");
        StreamDesk desk = Feed.desk("source s(a) step m = merge s, s step n = merge m, m check n: 0 else hold check m: a else stop");
        for (int i = 0; i < 16; i++) {
            Feed.push(desk, 0, 0, 1);
        }
        Due.equal("lost", desk.lost(), 4);
        long[] numbers = new long[8 + 2 + 16 * 2 + 2 + 32 * 2 + 2 + 60 * 4];
        long[] counts = {3, 2, 0, 16, 0, 60, 0, 4};
        System.arraycopy(counts, 0, numbers, 0, 8);
        int at = 8;
        for (int rows = 16; rows <= 32; rows += 16) {
            numbers[at + 1] = rows;
            for (int row = 0; row < rows; row++) {
                numbers[at + 2 + row * 2 + 1] = 1;
            }
            at += 2 + rows * 2;
        }
        at += 2;
        for (int held = 0; held < 60; held++) {
            numbers[at + held * 4] = 2;
            numbers[at + held * 4 + 3] = 1;
        }
        Due.equal("digest", desk.digest(), mixed(numbers));
    }

    private static long mixed(long... numbers) {
        long d = 281;
        for (long x : numbers) {
            d = d * 31 + x;
        }
        return d;
    }

    /** A call that is refused, on a desk made anew, has to leave all as it is on another one without this call. */
    private static void refused(Supplier<StreamDesk> maker, String what, Class<?> want, Refused call) {
        StreamDesk touched = maker.get();
        Due.thrown(touched, what, want, () -> call.on(touched));
        StreamDesk untouched = maker.get();
        Due.yes("all is as it was behind " + what, Look.through(touched).equals(Look.through(untouched)));
    }

    private interface Refused {
        long on(StreamDesk desk);
    }

    /** Indices that are wrong on every desk of these tests. */
    private static void refusedIndices(Supplier<StreamDesk> maker) {
        for (int i : new int[] {LEAST, -1, 12, 200, MOST}) {
            refused(maker, "count(" + i + ")", INDEX, d -> d.count(i));
            refused(maker, "stream(" + i + ", 0)", INDEX, d -> d.stream(i, 0));
            refused(maker, "stream(0, " + i + ")", INDEX, d -> d.stream(0, i));
            refused(maker, "push(" + i + ", 0)", INDEX, d -> d.push(i, 0));
            refused(maker, "rows(" + i + ")", INDEX, d -> d.rows(i));
            refused(maker, "cell(" + i + ", 0, 0)", INDEX, d -> d.cell(i, 0, 0));
            refused(maker, "cell(0, " + i + ", 0)", INDEX, d -> d.cell(0, i == 12 ? 201 : i, 0));
            refused(maker, "cell(0, 0, " + i + ")", INDEX, d -> d.cell(0, 0, i == -1 ? -2 : i));
            refused(maker, "watermark(" + i + ")", INDEX, d -> d.watermark(i));
            refused(maker, "windows(" + i + ", true)", INDEX, d -> d.windows(i, true));
            refused(maker, "held(" + i + ", 0)", INDEX, d -> d.held(i, 0));
            refused(maker, "held(0, " + i + ")", INDEX, d -> d.held(0, i));
            refused(maker, "heldValue(" + i + ", 0)", INDEX, d -> d.heldValue(i, 0));
            refused(maker, "heldValue(0, " + i + ")", INDEX, d -> d.heldValue(0, i));
            refused(maker, "release(" + i + ")", INDEX, d -> d.release(i));
            refused(maker, "discard(" + i + ")", INDEX, d -> d.discard(i));
            refused(maker, "broken(" + i + ")", INDEX, d -> d.broken(i));
            refused(maker, "back(" + i + ")", INDEX, d -> d.back(i));
            refused(maker, "changed(" + i + ")", INDEX, d -> d.changed(i));
        }
        for (int n : new int[] {LEAST, -1, 1501, MOST}) {
            refused(maker, "trim(" + n + ")", ARGUMENT, d -> d.trim(n));
        }
    }

    private static void refusedCallsOfANewDesk() {
        Due.sentence("A method that throws an exception changes nothing: on a desk without a program");
        Supplier<StreamDesk> maker = () -> {
            StreamDesk desk = new StreamDesk();
            Feed.text(desk, "source s(a) #");
            desk.value(5);
            return desk;
        };
        refusedIndices(maker);
        refused(maker, "trim(14)", ARGUMENT, d -> d.trim(14));
        refused(maker, "mark", STATE, StreamDesk::mark);
        refused(maker, "replay", STATE, StreamDesk::replay);
        refused(maker, "go", STATE, StreamDesk::go);
        refused(maker, "push", INDEX, d -> d.push(0, 0));
        refused(maker, "release", INDEX, d -> d.release(0));
        refused(maker, "discard", INDEX, d -> d.discard(0));
        refused(maker, "back", INDEX, d -> d.back(0));
    }

    private static final String AT_WORK = "source s(a, b) delay 2 source t(a) check s: a else hold check s: b <> 9 else stop"
            + " step w = window s by a every 10 late 5 (n = count, x = sum b) step m = merge t, t step j = join s, t on a within 5"
            + " step f = first j by a within 3";

    /** With two held rows, two marks, a window of each kind, rows of an earlier program, a tape and two numbers. */
    private static StreamDesk atWork(int stop) {
        StreamDesk desk = Feed.desk("source t(a) source s(a, b)");
        Feed.push(desk, 0, 1, 1);
        Feed.push(desk, 1, 5, 1, 2);
        Feed.compile(desk, AT_WORK);
        desk.replay();
        desk.mark();
        Feed.push(desk, 0, 14, 1, 3);
        Feed.push(desk, 0, 9, 0, 0);
        Feed.push(desk, 1, 12, 1);
        desk.mark();
        Feed.push(desk, 0, 30, 2, 4);
        Feed.push(desk, 0, 8, 1, 5);
        Feed.push(desk, 0, 26, 1, 5 + stop);
        Feed.text(desk, "source s(a) #");
        desk.value(5);
        desk.value(6);
        return desk;
    }

    private static void refusedCallsOfADeskAtWork() {
        Due.sentence("A method that throws an exception changes nothing: on a desk at work");
        Supplier<StreamDesk> maker = () -> atWork(0);
        Due.equal("held rows", maker.get().count(5), 2);
        refusedIndices(maker);
        refused(maker, "trim(14)", ARGUMENT, d -> d.trim(14));
        refused(maker, "push to a step", ARGUMENT, d -> d.push(2, 40));
        refused(maker, "push at -1", ARGUMENT, d -> d.push(0, -1));
        refused(maker, "push at 1000001", ARGUMENT, d -> d.push(0, 1000001));
        refused(maker, "push of two numbers to one column", ARGUMENT, d -> d.push(1, 40));
        refused(maker, "push to no stream", INDEX, d -> d.push(6, 40));
        refused(maker, "go", STATE, StreamDesk::go);
        refused(maker, "release(2)", INDEX, d -> d.release(2));
        refused(maker, "discard(2)", INDEX, d -> d.discard(2));
        refused(maker, "back(2)", INDEX, d -> d.back(2));
        refused(maker, "broken(2)", INDEX, d -> d.broken(2));
        refused(maker, "changed(6)", INDEX, d -> d.changed(6));
    }

    private static void refusedCallsOfAStoppedDesk() {
        Due.sentence("A method that throws an exception changes nothing: on a stopped desk");
        Supplier<StreamDesk> maker = () -> atWork(4);
        Due.yes("stopped", maker.get().isStopped());
        refusedIndices(maker);
        refused(maker, "push", STATE, d -> d.push(0, 40));
        refused(maker, "push at 0", STATE, d -> d.push(0, 0));
        refused(maker, "push of two numbers to one column", ARGUMENT, d -> d.push(1, 40));
        refused(maker, "release(3)", INDEX, d -> d.release(3));
        refused(maker, "discard(3)", INDEX, d -> d.discard(3));
    }

    /** All that has a limit is full: tape, numbers of the next row, log, marks; and it is stopped or not. */
    private static StreamDesk full(int stop) {
        StreamDesk desk = Feed.desk("source s(a, b, c, d, e, f) check s: a <> 1 else hold check s: a <> 2 else stop"
                + " step m = merge s, s");
        for (int i = 0; i < 199; i++) {
            if (i % 25 == 24) {
                desk.mark();
            }
            Feed.push(desk, 0, i, i % 3 == 0 ? 1 : 5, i, i, i, i, i);
        }
        desk.mark();
        Feed.push(desk, 0, 500, stop, 0, 0, 0, 0, 0);
        Feed.text(desk, "source s(a)" + " ".repeat(1488) + "#");
        for (int i = 0; i < 6; i++) {
            desk.value(i + 3);
        }
        return desk;
    }

    private static void refusedCallsOfAFullDesk() {
        Due.sentence("A method that throws an exception changes nothing: on a desk that is full");
        Supplier<StreamDesk> running = () -> full(5);
        Supplier<StreamDesk> stopped = () -> full(2);
        int[] counts = {2, 2, 1500, 200, 8, 60};
        for (int what = 0; what < 6; what++) {
            Due.equal("count(" + what + ")", running.get().count(what), counts[what]);
        }
        Due.yes("lost rows", running.get().lost() > 0);
        Due.yes("stopped", stopped.get().isStopped());
        for (Supplier<StreamDesk> maker : java.util.List.of(running, stopped)) {
            refused(maker, "feed", STATE, d -> d.feed(-1, -1, -1, -1, -1));
            refused(maker, "trim(1501)", ARGUMENT, d -> d.trim(1501));
            refused(maker, "value", STATE, d -> d.value(7));
            refused(maker, "push", STATE, d -> d.push(0, 1000));
            refused(maker, "push to a step", ARGUMENT, d -> d.push(1, 1000));
            refused(maker, "push at -1", ARGUMENT, d -> d.push(0, -1));
            refused(maker, "release", STATE, d -> d.release(0));
            refused(maker, "release", STATE, d -> d.release(59));
            refused(maker, "release", INDEX, d -> d.release(60));
            refused(maker, "discard", STATE, d -> d.discard(0));
            refused(maker, "discard", STATE, d -> d.discard(59));
            refused(maker, "discard", INDEX, d -> d.discard(60));
            refused(maker, "go", STATE, StreamDesk::go);
            refused(maker, "mark", STATE, StreamDesk::mark);
            refused(maker, "back", INDEX, d -> d.back(8));
        }
        refused(() -> {
            StreamDesk desk = full(5);
            desk.trim(1481);
            return desk;
        }, "feed to 1481 bytes", STATE, d -> d.feed(1, 2, 3, 4, 5));
    }

    private static void fiveHundredAndTwelveCalls() {
        Due.sentence("An object is used for at most 512 calls after it has been made");
        StreamDesk desk = new StreamDesk();
        int calls = 0;
        desk.feed(0x736f7572, 0x63652073, 0x28612920, 0x20202020, 0x20202020);
        Due.equal("compile", desk.compile(), 0);
        calls = 2;
        for (int i = 0; i < 200; i++) {
            Due.equal("value", desk.value(i), 1);
            Due.equal("push", desk.push(0, i), 1);
            calls += 2;
        }
        for (int i = 0; i < 54; i++) {
            Due.equal("replay", desk.replay(), 0);
            Due.equal("rows", desk.rows(0), 200);
            calls += 2;
        }
        Due.equal("taken", desk.taken(), 1.0);
        calls++;
        Due.equal("the last row", desk.cell(0, 199, 0), 199);
        calls++;
        Due.equal("calls", calls, 512);
    }
}
