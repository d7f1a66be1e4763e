/** Section 1, errors 2 to 6: how many there may be, which names mean what, and which error is the first. */
public final class MeaningBoundsTest {
    private static final String S = "source s(a, b) ";
    private static final String ST = "source s(k, a) source t(k, b) ";

    private MeaningBoundsTest() {
    }

    public static void main(String[] args) {
        twelveStreams();
        eightChecks();
        twelveStreamsAndEightChecksAtWork();
        sixColumnsOfASource();
        sixColumnsOfAMake();
        sixColumnsOfAJoin();
        sixColumnsOfAWindow();
        columnsOfOtherSteps();
        tooManyColumnsComeLast();
        tooManyItemsComeFirst();
        nameOfAStreamComesSecond();
        itemByItem();
        fromLeftToRight();
        streamsStandAhead();
        columnsOfTheStreamWorkedOn();
        makeSeesTheColumnsOfItsInputAlone();
        keyOfAJoin();
        keyOfAFirst();
        keyOfAWindow();
        argumentsOfFunctions();
        functionBehindItsArguments();
        mergeOfTheSameColumns();
        namesOfStreams();
        namesOfColumns();
        columnsOfAPick();
        columnsOfAJoin();
        columnsOfAWindow();
        rangeOfDelay();
        rangeOfWithin();
        rangeOfEvery();
        rangeOfLate();
        numbersWithoutThem();
        wrongProgramLeavesTheOldOne();
        Due.end();
    }

    private static void right(String program) {
        Verdict.right(program);
    }

    private static void wrong(int error, String marked) {
        Verdict.wrong(error, marked);
    }

    private static String streams(int n) {
        StringBuilder program = new StringBuilder();
        for (int i = 0; i < n; i++) {
            program.append(i % 3 == 0 ? "source s" + i + "(a) " : "step s" + i + " = keep s" + (i - 1) + " where 1 ");
        }
        return program.toString();
    }

    private static String checks(int n) {
        return "check s0: a else drop ".repeat(n);
    }

    private static void twelveStreams() {
        Due.sentence("Error 4: one too many: the 13th stream (at the first token of the item)");
        right(streams(1));
        right(streams(11));
        right(streams(12));
        wrong(4, streams(12) + "^source t(a)");
        wrong(4, streams(12) + "^step t = keep s0 where 1");
        wrong(4, streams(12) + "^" + streams(14).substring(streams(12).length()));
        wrong(4, streams(11) + "source t(a) ^step u = keep t where 1");
        right(streams(12) + checks(8));
        right("source s0(a) " + checks(8) + streams(12).substring(13));
        wrong(4, streams(12) + checks(3) + "^source t(a) " + checks(9));
        for (int n : new int[] {1, 11, 12}) {
            StreamDesk desk = Feed.desk(streams(n));
            Due.equal("streams", desk.count(0), n);
        }
    }

    private static void eightChecks() {
        Due.sentence("Error 4: one too many: the 9th check (at the first token of the item)");
        right(streams(1) + checks(7));
        right(streams(1) + checks(8));
        wrong(4, streams(1) + checks(8) + "^check s0: a else drop");
        wrong(4, streams(1) + checks(8) + "^check s0: a else drop check s0: a else drop");
        wrong(4, streams(1) + checks(8) + "source t(a) ^check t: a else drop");
        right(streams(2) + checks(4) + "check s1: a else hold check s1: a else stop check s0: a else stop check s1: a else drop ");
        wrong(4, streams(2) + checks(4) + "check s1: a else hold ".repeat(4) + "^check s1: a else drop ");
        for (int n : new int[] {0, 1, 7, 8}) {
            StreamDesk desk = Feed.desk(streams(1) + checks(n));
            Due.equal("checks", desk.count(1), n);
        }
    }

    private static void twelveStreamsAndEightChecksAtWork() {
        Due.sentence("streams are numbered from 0 as they stand in the program, checks likewise");
        StringBuilder program = new StringBuilder("source s(a) ");
        for (int i = 1; i < 12; i++) {
            program.append("step s").append(i).append(" = keep s").append(i > 1 ? String.valueOf(i - 1) : "").append(" where 1 ");
            if (i >= 4) {
                program.append("check s").append(i).append(": a <> ").append(i).append(" else hold ");
            }
        }
        StreamDesk desk = Feed.desk(program.toString());
        Due.equal("push goes through twelve streams", Feed.push(desk, 0, 0, 99), 12);
        for (int i = 4; i < 12; i++) {
            Due.equal("push up to the check of stream " + i, Feed.push(desk, 0, i, i), i);
            Rows.heldEqual(desk, i - 4, i, i - 4, i, i);
            Due.equal("broken", desk.broken(i - 4), 1);
        }
        for (int i = 1; i < 12; i++) {
            Feed.text(desk, "s" + i);
            Due.equal("find", desk.find(), i);
        }
    }

    private static void sixColumnsOfASource() {
        Due.sentence("Error 4: one too many: a 7th column (at the name of the stream that would have it): a source");
        right("source s(a)");
        right("source s(a, b, c, d, e)");
        right("source s(a, b, c, d, e, f)");
        wrong(4, "source ^s(a, b, c, d, e, f, g)");
        wrong(4, "source ^s(a, b, c, d, e, f, g, h)");
        wrong(4, S + "source ^t(a, b, c, d, e, f, g)");
        wrong(4, "source ^s(a, b, c, d, e, f, g) delay 5");
        StreamDesk desk = Feed.desk("source s(a, b, c, d, e, f)");
        Due.equal("columns", desk.stream(0, 1), 6);
        Feed.push(desk, 0, 0, 1, 2, 3, 4, 5, 6);
        Rows.equal(desk, 0, new long[] {0, 1, 2, 3, 4, 5, 6});
    }

    private static void sixColumnsOfAMake() {
        Due.sentence("Error 4: a 7th column: a make");
        right("source s(a, b, c, d) step t = make s with e = 1");
        right("source s(a, b, c, d, e) step t = make s with f = 1");
        right("source s(a) step t = make s with b = 1, c = 2, d = 3, e = 4, f = 5");
        wrong(4, "source s(a, b, c, d, e, f) step ^t = make s with g = 1");
        wrong(4, "source s(a, b, c, d, e) step ^t = make s with f = 1, g = 2");
        wrong(4, "source s(a) step ^t = make s with b = 1, c = 2, d = 3, e = 4, f = 5, g = 6");
        wrong(4, "source s(a) step ^t = make s with b = 1, c = 2, d = 3, e = 4, f = 5, g = 6, h = 7");
        StreamDesk desk = Feed.desk("source s(a) step t = make s with b = a + 1, c = a + 2, d = a + 3, e = a + 4, f = a + 5");
        Due.equal("columns", desk.stream(1, 1), 6);
        Feed.push(desk, 0, 0, 7);
        Rows.equal(desk, 1, new long[] {0, 7, 8, 9, 10, 11, 12});
    }

    private static void sixColumnsOfAJoin() {
        Due.sentence("Error 4: a 7th column: a join");
        right("source s(k, a, b) source t(k, c, d) step j = join s, t on k within 0");
        right("source s(k, a, b) source t(k, c, d, e) step j = join s, t on k within 0");
        right("source s(k, a, b, c, d, e) source t(k) step j = join s, t on k within 0");
        right("source s(k) source t(a, b, c, k, d, e) step j = join s, t on k within 0");
        wrong(4, "source s(k, a, b, c) source t(k, d, e, f) step ^j = join s, t on k within 0");
        wrong(4, "source s(k, a, b, c, d, e) source t(k, f) step ^j = join s, t on k within 0");
        wrong(4, "source s(k, a) source t(b, c, k, d, e, f) step ^j = join s, t on k within 0");
        wrong(4, "source s(k, a, b, c, d, e) source t(k, f, g, h, i, j) step ^u = join s, t on k within 0");
        StreamDesk desk = Feed.desk("source s(a, k, b) source t(c, d, k, e) step j = join s, t on k within 0");
        Due.equal("columns", desk.stream(2, 1), 6);
        Feed.push(desk, 0, 3, 1, 9, 2);
        Feed.push(desk, 1, 3, 3, 4, 9, 5);
        Rows.equal(desk, 2, new long[] {3, 1, 9, 2, 3, 4, 5});
    }

    private static void sixColumnsOfAWindow() {
        Due.sentence("Error 4: a 7th column: a window, whose columns are k, begin, and the names of the totals");
        String w = "source s(a) step w = window s by a every 5 (";
        right(w + "c = count)");
        right(w + "c = count, d = count, e = sum a)");
        right(w + "c = count, d = count, e = sum a, f = last a)");
        wrong(4, w.replace("w =", "^w =") + "c = count, d = count, e = sum a, f = last a, g = count)");
        wrong(4, w.replace("w =", "^w =") + "c = count, d = count, e = sum a, f = last a, g = least a, h = count)");
        StreamDesk desk = Feed.desk(w + "c = count, d = sum time, e = least time, f = last time)");
        Due.equal("columns", desk.stream(1, 1), 6);
        Feed.push(desk, 0, 1, 7);
        Feed.push(desk, 0, 2, 7);
        Feed.push(desk, 0, 5, 7);
        Rows.equal(desk, 1, new long[] {5, 7, 0, 2, 3, 1, 2});
    }

    private static void columnsOfOtherSteps() {
        Due.sentence("Error 4: a 7th column: six columns go through all other steps");
        StreamDesk desk = Feed.desk("source s(a, b, c, d, e, f) step k = keep s where 1 step p = pick k (f, e, d, c, b, a)"
                + " step m = merge p, p step q = first m by a within 0");
        for (int s = 0; s < 5; s++) {
            Due.equal("columns", desk.stream(s, 1), 6);
        }
        Due.equal("push", Feed.push(desk, 0, 0, 1, 2, 3, 4, 5, 6), 6);
        Rows.equal(desk, 4, new long[] {0, 6, 5, 4, 3, 2, 1});
    }

    private static void tooManyColumnsComeLast() {
        Due.sentence("Each item is looked at in this order: .. at last error 4 of columns.");
        wrong(5, "source s(a, b, c, d, e, f, g, ^a)");
        wrong(6, "source s(a, b, c, d, e, f, g) delay ^1001");
        wrong(4, "source ^s(a, b, c, d, e, f, g) delay 1000");
        wrong(5, "source s(a, b, c, d, e, f) step t = make s with g = 1, ^g = 2");
        wrong(2, "source s(a, b, c, d, e, f) step t = make s with g = 1, h = ^q");
        wrong(3, "source s(a, b, c, d, e, f) step t = make s with g = 1, h = ^abs(1, 2)");
        wrong(2, "source s(a, b, c, d, e, f) step t = make s with g = ^q");
        wrong(5, "source s(k, a, b, c) source t(k, d, e, f, a) step j = join s, ^t on k within 0");
        wrong(6, "source s(k, a, b, c) source t(k, d, e, f) step j = join s, t on k within ^1001");
        wrong(2, "source s(a) step w = window s by a every 1 (c = count, d = count, e = count, f = count, g = sum ^q)");
        wrong(5, "source s(a) step w = window s by a every 1 (c = count, d = count, e = count, f = count, g = sum a, ^g = count)");
        wrong(4, "source s(a) step ^w = window s by a every 1 (c = count, d = count, e = count, f = count, g = sum a) check q: 1 else drop");
    }

    private static void tooManyItemsComeFirst() {
        Due.sentence("Each item is looked at in this order: error 4 of streams and checks; ..");
        wrong(4, streams(12) + "^source s0(a)");
        wrong(4, streams(12) + "^source t(a, a)");
        wrong(4, streams(12) + "^source t(a) delay 1001");
        wrong(4, streams(12) + "^source t(a, b, c, d, e, f, g)");
        wrong(4, streams(12) + "^step s1 = keep q where q");
        wrong(4, streams(12) + "^step t = merge q, q");
        wrong(4, streams(12) + "^step t = window q by q every 0 (q = count)");
        wrong(4, streams(1) + checks(8) + "^check q: a else drop");
        wrong(4, streams(1) + checks(8) + "^check s0: q else drop");
        wrong(4, streams(1) + checks(8) + "^check s0: abs(1, 2) else drop");
    }

    private static void nameOfAStreamComesSecond() {
        Due.sentence("Each item is looked at in this order: .. the name of a new stream (error 5); then what follows");
        wrong(5, S + "source ^s(a, a)");
        wrong(5, S + "source ^s(a) delay 1001");
        wrong(5, S + "source ^s(a, b, c, d, e, f, g)");
        wrong(5, S + "step ^s = keep q where q");
        wrong(5, S + "step ^s = make s with a = 1");
        wrong(5, S + "step ^s = pick s (q)");
        wrong(5, S + "step ^s = merge s, q");
        wrong(5, S + "step ^s = join s, s on q within 1001");
        wrong(5, S + "step ^s = first s by q within 1001");
        wrong(5, S + "step ^s = window s by q every 0 (q = count)");
    }

    private static void itemByItem() {
        Due.sentence("the meaning is looked at, item by item: the first of these errors");
        wrong(5, "source s(a, ^a) check q: 1 else drop");
        wrong(2, S + "check s: ^q else drop source s(a)");
        wrong(3, S + "check s: ^abs(1, 2) else drop check q: 1 else drop");
        wrong(6, "source s(a) delay ^1001 source s(a, a) check q: 1 else drop");
        wrong(4, "source ^s(a, b, c, d, e, f, g) source s(a)");
        wrong(3, ST + "step m = ^merge s, t step s = keep q where 1");
        wrong(2, S + "step t = keep s where ^q " + "check s: a else drop ".repeat(9));
        wrong(2, S + "check ^t: 1 else drop source t(a, a)");
    }

    private static void fromLeftToRight() {
        Due.sentence("then what follows, from left to right");
        wrong(2, S + "check ^q: q + abs(1, 2) else drop");
        wrong(2, S + "step t = keep ^q where q");
        wrong(2, S + "step t = make ^q with a = q");
        wrong(5, S + "step t = make s with ^a = q");
        wrong(2, S + "step t = make s with c = ^q, c = 1");
        wrong(5, S + "step t = make s with c = 1, ^c = q");
        wrong(2, S + "step t = pick ^q (q, q)");
        wrong(2, S + "step t = pick s (^q, q)");
        wrong(5, S + "step t = pick s (a, ^a, q)");
        wrong(2, S + "step t = merge ^q, p");
        wrong(2, S + "step t = merge s, ^q");
        wrong(2, S + "step t = join ^q, p on x within 1001");
        wrong(2, S + "step t = join s, ^q on x within 1001");
        wrong(2, S + "step t = join s, s on ^q within 1001");
        wrong(6, S + "step t = join s, s on a within ^1001");
        wrong(5, S + "step t = join s, ^s on a within 1000");
        wrong(2, S + "step t = first ^q by q within 1001");
        wrong(2, S + "step t = first s by ^q within 1001");
        wrong(6, S + "step t = first s by a within ^1001");
        wrong(2, S + "step t = window ^q by q every 0 late 1001 (a = sum q)");
        wrong(2, S + "step t = window s by ^q every 0 late 1001 (a = sum q)");
        wrong(6, S + "step t = window s by a every ^0 late 1001 (a = sum q)");
        wrong(6, S + "step t = window s by a every 1 late ^1001 (a = sum q)");
        wrong(5, S + "step t = window s by a every 1 late 1000 (^a = sum q)");
        wrong(2, S + "step t = window s by a every 1 late 1000 (n = sum ^q, n = count)");
        wrong(5, S + "step t = window s by a every 1 late 1000 (n = sum a, ^n = last q)");
        wrong(5, "source s(a, ^a) delay 1001");
    }

    private static void streamsStandAhead() {
        Due.sentence("Names of streams in works and checks mean streams that stand ahead (error 2).");
        wrong(2, "check ^s: 1 else drop");
        wrong(2, "check ^s: 1 else drop source s(a)");
        wrong(2, "step t = keep ^s where 1 source s(a)");
        wrong(2, S + "step t = keep ^t where 1");
        wrong(2, S + "step t = merge s, ^t");
        wrong(2, S + "step t = merge ^t, s");
        wrong(2, S + "step t = join s, ^t on a within 1");
        wrong(2, S + "step t = keep ^a where 1");
        wrong(2, S + "check ^a: 1 else drop");
        right(S + "step t = keep s where 1 step u = keep t where 1 check u: 1 else drop check s: 1 else drop");
        wrong(2, S + "step t = keep s where 1 step u = keep ^v where 1 step v = keep t where 1");
        wrong(2, S + "check s: 1 else drop check ^t: 1 else drop step t = keep s where 1");
    }

    private static void columnsOfTheStreamWorkedOn() {
        Due.sentence("Names in expressions mean columns of the stream that is worked on (of the first named one).");
        right(ST + "check s: a else drop");
        wrong(2, ST + "check s: ^b else drop");
        wrong(2, ST + "check t: ^a else drop");
        right(ST + "step u = keep t where b");
        wrong(2, ST + "step u = keep t where ^a");
        wrong(2, ST + "step u = keep t where ^t");
        wrong(2, ST + "step u = keep t where k + ^u");
        right(ST + "step j = join s, t on k within 1 check j: k + a + b else drop");
        right(S + "step t = window s by a every 1 (n = count) check t: a + begin + n else drop");
        wrong(2, S + "step t = window s by a every 1 (n = count) check t: ^b else drop");
        wrong(2, S + "step t = window s by a every 1 (n = sum ^begin)");
        wrong(2, S + "step t = window s by a every 1 (n = count, m = sum ^n)");
        wrong(2, S + "step t = pick s (b) check t: ^a else drop");
        right(S + "step t = pick s (b) check t: b else drop check s: a else drop");
        wrong(2, S + "step t = make s with c = 1 check s: ^c else drop");
    }

    private static void makeSeesTheColumnsOfItsInputAlone() {
        Due.sentence("make: the expressions see the columns of s alone");
        wrong(2, S + "step t = make s with c = 1, d = ^c");
        wrong(2, S + "step t = make s with c = ^c");
        wrong(2, S + "step t = make s with c = 1, d = ^d");
        right(S + "step t = make s with c = a, d = b, e = a + b");
        right(S + "step t = make s with c = 1 step u = make t with d = c");
    }

    private static void keyOfAJoin() {
        Due.sentence("join: k is a column of both (error 2)");
        right(ST + "step j = join s, t on k within 0");
        wrong(2, ST + "step j = join s, t on ^a within 0");
        wrong(2, ST + "step j = join s, t on ^b within 0");
        wrong(2, ST + "step j = join s, t on ^q within 0");
        wrong(2, ST + "step j = join s, t on ^s within 0");
    }

    private static void keyOfAFirst() {
        Due.sentence("first: k is a column of s");
        right(ST + "step f = first s by k within 0");
        right(ST + "step f = first s by a within 0");
        wrong(2, ST + "step f = first s by ^b within 0");
        wrong(2, ST + "step f = first s by ^f within 0");
        wrong(2, ST + "step f = first s by ^begin within 0");
    }

    private static void keyOfAWindow() {
        Due.sentence("window: k is a column of s; k is not named begin (error 5)");
        right(ST + "step w = window s by a every 1 (n = count)");
        wrong(2, ST + "step w = window s by ^b every 1 (n = count)");
        wrong(2, ST + "step w = window s by ^n every 1 (n = count)");
        wrong(2, ST + "step w = window s by ^begin every 1 (n = count)");
        wrong(5, "source s(begin) step w = window s by ^begin every 1 (n = count)");
        wrong(5, "source s(a, begin) step w = window s by ^begin every 0 late 1001 (begin = sum q)");
        right("source s(a, begin) step w = window s by a every 1 (n = sum begin)");
        right("source s(a, begi) step w = window s by begi every 1 (n = count)");
        right("source s(a, begin0) step w = window s by begin0 every 1 (n = count)");
    }

    private static void argumentsOfFunctions() {
        Due.sentence("Error 3: a function with the wrong number of arguments (at its word; abs has one, least and most two)");
        right(S + "check s: abs(a) else drop");
        wrong(3, S + "check s: ^abs(a, b) else drop");
        wrong(3, S + "check s: ^abs(a, b, a) else drop");
        for (String word : new String[] {"least", "most"}) {
            wrong(3, S + "check s: 1 + ^" + word + "(a) else drop");
            right(S + "check s: 1 + " + word + "(a, b) else drop");
            wrong(3, S + "check s: 1 + ^" + word + "(a, b, a) else drop");
            wrong(3, S + "check s: 1 + ^" + word + "(1" + ",1".repeat(26) + ") else drop");
        }
        wrong(1, S + "check s: abs(^) else drop");
        wrong(1, S + "check s: least(^) else drop");
        wrong(3, S + "step t = keep s where ^abs(1, 2)");
        wrong(3, S + "step t = make s with c = ^abs(1, 2)");
        wrong(3, S + "step t = window s by a every 1 (n = most ^most(1))");
        wrong(3, S + "step t = window s by a every 1 (n = least ^least(a))");
    }

    private static void functionBehindItsArguments() {
        Due.sentence("within an expression in the order of its tokens, but error 3 of a function behind the errors of its arguments");
        wrong(2, S + "check s: abs(^q, 1) else drop");
        wrong(2, S + "check s: abs(1, ^q) else drop");
        wrong(2, S + "check s: least(^q) else drop");
        wrong(2, S + "check s: least(1, 2, ^q) else drop");
        wrong(2, S + "check s: ^q + abs(1, 2) else drop");
        wrong(3, S + "check s: ^abs(1, 2) + q else drop");
        wrong(3, S + "check s: abs(1, ^abs(1, 2)) else drop");
        wrong(3, S + "check s: most(^least(1), q) else drop");
        wrong(3, S + "check s: most(^least(1), abs(1, 2)) else drop");
        wrong(3, S + "check s: most(abs(1), ^abs(1, 2)) else drop");
        wrong(3, S + "check s: ^most(least(1, 2), abs(1), 3) else drop");
        wrong(2, S + "check s: most(least(1, ^q, 3)) else drop");
        wrong(3, S + "check s: (^abs((1), 2)) else drop");
        wrong(3, S + "check s: not -^abs(1, 2) else drop");
    }

    private static void mergeOfTheSameColumns() {
        Due.sentence("a merge of streams whose columns are not the same names in the same order (at merge)");
        right(S + "source t(a, b) step m = merge s, t");
        right(S + "step m = merge s, s");
        wrong(3, S + "source t(b, a) step m = ^merge s, t");
        wrong(3, S + "source t(a, c) step m = ^merge s, t");
        wrong(3, S + "source t(c, b) step m = ^merge s, t");
        wrong(3, S + "source t(a) step m = ^merge s, t");
        wrong(3, S + "source t(b) step m = ^merge s, t");
        wrong(3, S + "source t(a, b, c) step m = ^merge s, t");
        wrong(3, S + "source t(a, b, c) step m = ^merge t, s");
        right("source s(a, b, c, d, e, f) source t(a, b, c, d, e, f) step m = merge s, t");
        wrong(3, "source s(a, b, c, d, e, f) source t(a, b, c, d, e, g) step m = ^merge s, t");
        wrong(3, "source s(a, b, c, d, e, f) source t(a, b, c, d, e) step m = ^merge s, t");
        wrong(2, S + "source t(a, c) step m = merge s, ^q");
        wrong(2, S + "source t(a, c) step m = merge ^q, t");
    }

    private static void namesOfStreams() {
        Due.sentence("Error 5 (at the name): a name that a stream .. has already");
        wrong(5, "source s(a) source ^s(b)");
        wrong(5, "source s(a) step ^s = keep s where 1");
        wrong(5, "source s(a) step t = keep s where 1 step ^t = keep s where 1");
        wrong(5, "source s(a) step t = keep s where 1 source ^t(a)");
        wrong(5, streams(11) + "source ^s10(a)");
        wrong(5, streams(11) + "source ^s0(a)");
        right(streams(11) + "source s11(a)");
        // a column may bear the name of a stream
        right("source s(s) step t = make s with t = s");
    }

    private static void namesOfColumns() {
        Due.sentence("Error 5 (at the name): a name that .. a column of the same stream, has already");
        right("source s(a, b, c, d, e, f)");
        wrong(5, "source s(a, ^a)");
        wrong(5, "source s(a, b, ^a)");
        wrong(5, "source s(a, b, c, d, e, ^a)");
        wrong(5, "source s(a, b, c, d, e, ^e)");
        right("source s(a) source t(a)");
        wrong(5, S + "step t = make s with ^a = 1");
        wrong(5, S + "step t = make s with ^b = 1");
        wrong(5, S + "step t = make s with c = 1, ^a = 1");
        wrong(5, S + "step t = make s with c = 1, d = 1, ^c = 1");
        right(S + "step t = make s with c = 1, d = 1");
    }

    private static void columnsOfAPick() {
        Due.sentence("pick: the columns of s (error 2) that are named, in this order, each once (error 5)");
        right(S + "step t = pick s (a)");
        right(S + "step t = pick s (b)");
        right(S + "step t = pick s (a, b)");
        right(S + "step t = pick s (b, a)");
        wrong(5, S + "step t = pick s (a, ^a)");
        wrong(5, S + "step t = pick s (a, b, ^a)");
        wrong(5, S + "step t = pick s (a, b, ^b)");
        wrong(2, S + "step t = pick s (^c)");
        wrong(2, S + "step t = pick s (a, b, ^s)");
        right("source s(a, b, c, d, e, f) step t = pick s (f, e, d, c, b, a)");
        wrong(5, "source s(a, b, c, d, e, f) step t = pick s (f, e, d, c, b, a, ^f)");
        wrong(2, "source s(a, b, c, d, e, f) step t = pick s (f, e, d, c, b, a, ^g)");
    }

    private static void columnsOfAJoin() {
        Due.sentence("the columns are those of s, and then those of t other than k; none of these may be a column of s"
                + " (error 5, at the name of t, behind the errors of k and n)");
        wrong(5, "source s(k, a) source t(k, a) step j = join s, ^t on k within 0");
        wrong(5, "source s(k, a) source t(k, b, a) step j = join s, ^t on k within 0");
        wrong(5, "source s(k, a) source t(a, k) step j = join s, ^t on k within 0");
        wrong(5, "source s(k, a) source t(k, a) step j = join s, ^t on a within 0");
        wrong(5, S + "step j = join s, ^s on a within 0");
        right("source s(k) step j = join s, s on k within 0");
        right("source s(k, a) source t(k) step j = join s, t on k within 0");
        right("source s(k, a) source t(k) step j = join t, s on k within 0");
        wrong(6, "source s(k, a) source t(k, a) step j = join s, t on k within ^1001");
        wrong(2, "source s(k, a) source t(k, a) step j = join s, t on ^q within 1001");
        wrong(5, "source s(k, a, b, c) source t(k, a, d, e, f) step j = join s, ^t on k within 0");
    }

    private static void columnsOfAWindow() {
        Due.sentence("the names of the totals are different, and neither begin nor that of k (error 5)");
        right(S + "step w = window s by a every 1 (b = count)");
        wrong(5, S + "step w = window s by a every 1 (^a = count)");
        wrong(5, S + "step w = window s by a every 1 (^begin = count)");
        wrong(5, S + "step w = window s by a every 1 (n = count, ^a = count)");
        wrong(5, S + "step w = window s by a every 1 (n = count, ^begin = count)");
        wrong(5, S + "step w = window s by a every 1 (n = count, ^n = count)");
        wrong(5, S + "step w = window s by a every 1 (n = count, m = count, o = count, ^n = count)");
        wrong(5, S + "step w = window s by a every 1 (n = count, m = count, o = count, p = count, q = count, ^n = count)");
        right(S + "step w = window s by a every 1 (begin0 = count, begi = count, s = count, w = count)");
    }

    /** The range is least to 1000. */
    private static void range(int least, String head, String tail) {
        if (least > 0) {
            wrong(6, head + "^" + (least - 1) + tail);
        } else {
            wrong(1, head + "^-1" + tail);
        }
        for (String inside : new String[] {String.valueOf(least), "1", "999", "1000", "000001000"}) {
            right(head + inside + tail);
        }
        for (String outside : new String[] {"1001", "1002", "65536", "999999999", "000001001"}) {
            wrong(6, head + "^" + outside + tail);
        }
    }

    private static void rangeOfDelay() {
        Due.sentence("Error 6 (at the number): a number that is not in its range. d is 0 to 1000");
        range(0, "source s(a) delay ", "");
        range(0, "source s(a, b) delay ", " source t(a)");
    }

    private static void rangeOfWithin() {
        Due.sentence("Error 6 (at the number): join, first: n is 0 to 1000");
        range(0, ST + "step j = join s, t on k within ", "");
        range(0, ST + "step f = first s by k within ", "");
    }

    private static void rangeOfEvery() {
        Due.sentence("Error 6 (at the number): window: n is 1 to 1000");
        range(1, ST + "step w = window s by k every ", " (n = count)");
        range(1, ST + "step w = window s by k every ", " late 5 (n = count)");
        wrong(6, ST + "step w = window s by k every ^000000000 (n = count)");
    }

    private static void rangeOfLate() {
        Due.sentence("Error 6 (at the number): window: m is 0 to 1000");
        range(0, ST + "step w = window s by k every 1 late ", " (n = count)");
    }

    private static void numbersWithoutThem() {
        Due.sentence("d is 0 to 1000, 0 without it; m is 0 to 1000, 0 without it");
        // a program compiled ahead of it, with other numbers at the same places, leaves nothing
        for (int round = 0; round < 4; round++) {
            StreamDesk desk = new StreamDesk();
            for (int i = 0; i < round; i++) {
                Feed.compile(desk, "source s(k) delay 500 step w = window s by k every 10 late 900 (n = count)");
            }
            Due.equal("compile", Feed.compile(desk, "source s(k) step w = window s by k every 10 (n = count)"), 0);
            Feed.push(desk, 0, 10, 1);
            Due.equal("watermark without a delay", desk.watermark(0), 10);
            Feed.push(desk, 0, 9, 1);
            Due.equal("held without late", desk.count(5), 1);
        }
    }

    private static void wrongProgramLeavesTheOldOne() {
        Due.sentence("If it has an error, the program that was there stays, with all its rows.");
        String[] errors = {"source", "source t(a) check t: q else drop", "source t(a) check t: abs(1, 2) else drop",
            streams(12) + "source t(a)", "source t(a, a)", "source t(a) delay 1001"};
        for (int i = 0; i < errors.length; i++) {
            StreamDesk desk = Feed.desk("source s(a) delay 3 check s: a else stop step w = window s by a every 5 late 3 (n = count)");
            Feed.push(desk, 0, 1, 7);
            Feed.push(desk, 0, 8, 7);
            Feed.push(desk, 0, 2, 0);
            desk.mark();
            long digest = desk.digest();
            Due.equal("compile", Feed.compile(desk, errors[i]), i + 1);
            Due.equal("digest", desk.digest(), digest);
            Due.equal("broken", desk.broken(0), 1);
            Due.equal("closed windows", desk.windows(1, true), 1);
            Due.equal("open windows", desk.windows(1, false), 1);
            Due.equal("changed", desk.changed(0), 2);
            Due.equal("taken", desk.taken(), 2.0 / 3.0);
            Due.equal("stream", desk.stream(1, 0), 7);
            desk.go();
            Due.equal("push goes on", Feed.push(desk, 0, 13, 7), 2);
            Due.equal("back goes on", desk.back(0), 2);
            Due.equal("digest", desk.digest(), digest);
        }
    }
}
