/** Promises 4 and 5, and section 1: what compile and errorAt answer for programs, right and wrong. */
public final class LanguageTest {
    private static final String S = "source s(a, b) ";

    private LanguageTest() {
    }

    public static void main(String[] args) {
        tokens();
        grammar();
        limitsOfExpressions();
        errorOrder();
        unknownNames();
        unfit();
        tooMany();
        takenNames();
        ranges();
        numbers();
        manyPrograms();
        Due.end();
    }

    private static void wrong(int error, String marked) {
        Verdict.wrong(error, marked);
    }

    private static void right(String program) {
        Verdict.right(program);
    }

    private static void tokens() {
        right("source s(a)");
        right(" \n source\ns\n(\na\n)\n ");
        right("source abcdefgh(a1234567)");
        right("source s(a)delay 5step t=keep s where 1step u=keep t where 2");
        right("source s(a)check s:1<>2else drop check s:a<=2 and a>=1 or a<1 and a>2else stop");
        right("source s(a) check s: 123456789 else drop");
        wrong(1, "source ^abcdefghi(a)");
        wrong(1, "source s(a, ^a12345678)");
        wrong(1, "source s(a) check s: ^1234567890 else drop");
        wrong(1, "source s(a) delay ^0000000001");
        wrong(1, "source s(a) check s: a ^# 1 else drop");
        wrong(1, "source^\ts(a)");
        wrong(1, "source s(a)^\r");
        wrong(1, "source ^S(a)");
        wrong(1, "source s^\u00e9(a)");
        wrong(1, "source s^\u0000(a)");
        wrong(1, "source s(a) check s: a < ^> 1 else drop");
        wrong(1, "source s(a) check s: a > ^= 1 else drop");
        wrong(1, "source s(a) check s: a ^! 1 else drop");
        wrong(1, "^sources(a)");
        wrong(1, "source s(a) delay^");
        wrong(1, "^1source s(a)");
        wrong(1, "source ^1s(a)");
    }

    private static void grammar() {
        wrong(1, "^");
        wrong(1, "   \n^");
        wrong(1, "source s^");
        wrong(1, "source s(a, ^)");
        wrong(1, "source s(^)");
        wrong(1, "source s(a ^b)");
        wrong(1, "source ^step(a)");
        wrong(1, "source s(^time)");
        wrong(1, "source s(a) delay ^a");
        wrong(1, "source s(a) ^, b");
        wrong(1, S + "step t ^keep s where 1");
        wrong(1, S + "step t = ^s");
        wrong(1, S + "step t = ^where s");
        wrong(1, S + "step t = ^count s");
        wrong(1, S + "step t = ^#");
        wrong(1, S + "step t = keep ^where 1");
        wrong(1, S + "step t = keep s ^with 1");
        wrong(1, S + "step t = keep s where ^");
        wrong(1, S + "step t = make s with c ^1");
        wrong(1, S + "step t = make s with c = 1, ^2");
        wrong(1, S + "step t = make s with c = 1, d ^");
        wrong(1, S + "step t = pick s ^a");
        wrong(1, S + "step t = pick s (^1)");
        wrong(1, S + "step t = merge s^");
        wrong(1, S + "step t = merge s ^s");
        wrong(1, S + "step t = join s, s ^within 1");
        wrong(1, S + "step t = join s, s on a ^");
        wrong(1, S + "step t = join s, s on a within ^a");
        wrong(1, S + "step t = first s ^on a within 1");
        wrong(1, S + "step t = first s by a ^every 1");
        wrong(1, S + "step t = window s by a ^within 1 (n = count)");
        wrong(1, S + "step t = window s by a every 1 late ^(n = count)");
        wrong(1, S + "step t = window s by a every 1 (^)");
        wrong(1, S + "step t = window s by a every 1 (n ^: count)");
        wrong(1, S + "step t = window s by a every 1 (n = ^a)");
        wrong(1, S + "step t = window s by a every 1 (n = ^abs(a))");
        wrong(1, S + "step t = window s by a every 1 (n = count ^a)");
        wrong(1, S + "step t = window s by a every 1 (n = sum ^)");
        wrong(1, S + "step t = window s by a every 1 (n = least (a^, b))");
        wrong(1, S + "step t = window s by a every 1 (n = count, ^)");
        wrong(1, S + "step t = window s by a every 1 (n = count^");
        wrong(1, S + "check s ^a else drop");
        wrong(1, S + "check s: a ^drop");
        wrong(1, S + "check s: a else ^keep");
        wrong(1, S + "check s: a else^");
        wrong(1, S + "check s: a else ^#");
        wrong(1, S + "check s: ^else drop");
        wrong(1, S + "check s: a = b ^= a else drop");
        wrong(1, S + "check s: a < b ^< a else drop");
        wrong(1, S + "check s: (a^, b) else drop");
        wrong(1, S + "check s: (a ^else drop");
        wrong(1, S + "check s: a ^) else drop");
        wrong(1, S + "check s: abs ^a else drop");
        wrong(1, S + "check s: abs(^) else drop");
        wrong(1, S + "check s: least(a, ^) else drop");
        wrong(1, S + "check s: ^sum (a) else drop");
        wrong(1, S + "check s: a + ^* b else drop");
        wrong(1, S + "check s: ^+ a else drop");
        wrong(1, S + "check s: a ^not b else drop");
        wrong(1, S + "^merge");
        right(S + "step t = window s by a every 1 (n = least least(a, b), m = most (a), o = last abs(-b), p = count)");
        right(S + "check s: not not a = - - b and not (a or b) else hold");
    }

    private static String times(String text, int n) {
        return text.repeat(n);
    }

    private static void limitsOfExpressions() {
        right(S + "check s: " + times("(", 8) + "a" + times(")", 8) + " else drop");
        wrong(1, S + "check s: " + times("(", 8) + "^(a" + times(")", 9) + " else drop");
        right(S + "check s: " + times("- ", 8) + "a else drop");
        wrong(1, S + "check s: " + times("- ", 8) + "^- a else drop");
        wrong(1, S + "check s: " + times("not ", 8) + "^not a else drop");
        wrong(1, S + "check s: " + times("(", 7) + "not ^-a" + times(")", 7) + " else drop");
        wrong(1, S + "check s: " + times("-(", 4) + "abs^(a)" + times(")", 4) + " else drop");
        right(S + "check s: " + times("-(", 4) + "a - a" + times(")", 4) + " - (a) - -a else drop");
        right(S + "check s: " + times("abs(", 8) + "a" + times(")", 8) + " else drop");
        wrong(1, S + "check s: " + times("abs(", 8) + "abs^(a" + times(")", 9) + " else drop");
        right(S + "check s: -(a) + " + times("(", 8) + "a" + times(")", 8) + " else drop");
        right(S + "check s: least(a, " + times("(", 7) + "a" + times(")", 7) + ") else drop");
        wrong(1, S + "check s: least(a, " + times("(", 7) + "^(a" + times(")", 9) + " else drop");
        wrong(1, S + "check s: least(" + times("(", 7) + "a" + times(")", 7) + ", -(" + times("-", 5) + "^-a)) else drop");
        // 59 tokens, 60 and 61 of them
        right(S + "check s: a" + times("+a", 29) + " else drop");
        right(S + "check s: -a" + times("+a", 29) + " else drop");
        wrong(1, S + "check s: -a" + times("+a", 29) + "^+a else drop");
        wrong(1, S + "check s: - -a" + times("+a", 28) + "+^a else drop");
        wrong(1, S + "check s: a" + times("+a", 29) + "+^a else drop");
        wrong(1, S + "check s: (a" + times("+a", 28) + "+b^) else drop");
        wrong(1, S + "check s: a" + times("+a", 29) + "+^- a else drop");
        right(S + "check s: abs(a" + times("+a", 28) + ") else drop");
        wrong(1, S + "check s: abs(-a" + times("+a", 28) + "^) else drop");
        wrong(1, S + "check s: -least(a" + times("+a", 28) + "^, a) else drop");
        right(S + "step t = make s with c = -a" + times("+a", 29) + ", d = -a" + times("+a", 29));
        right(S + "step t = window s by a every 1 (n = sum -a" + times("+a", 29) + ", m = last -a" + times("+a", 29) + ")");
        // what is no part of the expression is no 61st token of it
        right(S + "step t = keep s where -a" + times("+a", 29) + " check t: 1 else drop");
    }

    private static void errorOrder() {
        wrong(1, "source s(a, a) step ^(");
        wrong(5, "source s(a, ^a) step t = keep u where zz");
        wrong(2, S + "step t = keep ^u where zz check s: zz else drop");
        wrong(2, S + "check s: ^zz + abs(a, b) else drop");
        wrong(3, S + "check s: ^abs(a, b) + zz else drop");
        wrong(2, S + "check s: abs(a, ^zz) else drop");
        wrong(3, S + "check s: least(^abs(a, b), zz) else drop");
        wrong(3, S + "check s: ^least(abs(a), b, a) else drop");
        wrong(5, S + "step ^s = keep u where zz");
        wrong(2, S + "step t = make ^u with a = zz");
        wrong(5, S + "step t = make s with ^a = zz");
        wrong(2, S + "step t = make s with c = ^zz, c = 1");
        wrong(2, S + "step t = window s by ^zz every 0 (n = count)");
        wrong(6, S + "step t = window s by a every ^0 late 1001 (a = sum zz)");
        wrong(6, S + "step t = window s by a every 1 late ^1001 (a = sum zz)");
        wrong(5, S + "step t = window s by a every 1 late 1000 (^a = sum zz)");
        wrong(2, S + "step t = window s by a every 1 (n = sum ^zz, n = count)");
        wrong(2, S + "step t = merge ^u, v");
        wrong(2, S + "step t = merge s, ^v");
        wrong(2, S + "step t = join s, ^v on zz within 1001");
        wrong(2, S + "step t = join s, s on ^zz within 1001");
        wrong(6, S + "step t = join s, s on a within ^1001");
        wrong(5, S + "step t = join s, ^s on a within 1000");
        wrong(6, S + "step t = first s by a within ^1001 check s: zz else drop");
        wrong(6, "source s(a, b, c, d, e, f, g) delay ^1001");
        wrong(5, "source s(a, b, c, d, e, f, g, ^a)");
        wrong(4, "source ^s(a, b, c, d, e, f, g, h, i, j) delay 1000 step s = keep s where 1");
        wrong(2, "source s(a, b, c, d, e, f) step t = make s with g = 1, h = ^zz");
        wrong(5, "source s(a, b, c, d, e, f) step t = make s with g = 1, ^g = 1");
        wrong(5, "source s(k, a, b, c) source t(k, d, e, f, a) step j = join s, ^t on k within 0");
    }

    private static void unknownNames() {
        wrong(2, "check ^s: 1 else drop source s(a)");
        wrong(2, S + "step t = keep ^t where 1");
        wrong(2, S + "step t = keep ^a where 1");
        wrong(2, S + "step t = keep s where ^s");
        wrong(2, S + "step t = make s with c = 1, d = ^c");
        wrong(2, S + "step t = pick s (b, ^c)");
        wrong(2, S + "step t = first s by ^c within 0");
        wrong(2, S + "step t = window s by a every 1 (n = count, m = sum ^n)");
        wrong(2, S + "step t = window s by a every 1 (n = sum ^begin)");
        wrong(2, S + "step t = window s by ^begin every 1 (n = count)");
        wrong(2, S + "source t(c) step u = join s, t on ^a within 0");
        wrong(2, S + "source t(c) step u = join s, t on ^c within 0");
        wrong(2, S + "step t = window s by a every 1 (n = count) check t: ^b else drop");
        right(S + "step t = window s by a every 1 (n = count) check t: a + begin + n + time else drop");
        right("source begin(begin) step a = keep begin where begin");
    }

    private static void unfit() {
        wrong(3, S + "check s: ^abs(a, b) else drop");
        wrong(3, S + "check s: ^least(a) else drop");
        wrong(3, S + "check s: ^most(a, b, 1) else drop");
        right(S + "check s: abs(a) + least(a, b) + most(a, b) else drop");
        wrong(3, S + "source t(b, a) step u = ^merge s, t");
        wrong(3, S + "source t(c, b) step u = ^merge s, t");
        wrong(3, S + "source t(a, c) step u = ^merge s, t");
        wrong(3, S + "source t(a) step u = ^merge s, t");
        wrong(3, S + "source t(a, b, c) step u = ^merge s, t");
        right(S + "source t(a, b) step u = merge s, t step v = merge u, u");
    }

    private static void tooMany() {
        StringBuilder streams = new StringBuilder(S);
        for (int i = 0; i < 11; i++) {
            streams.append("step t").append(i).append(" = keep s where 1 ");
        }
        right(streams.toString());
        wrong(4, streams + "^step s = keep s where 1");
        wrong(4, streams + "^source u(a, a)");
        String checks = S + times("check s: a else drop ", 8);
        right(checks);
        wrong(4, checks + "^check zz: a else drop");
        right("source s(a, b, c, d, e, f)");
        wrong(4, "source ^s(a, b, c, d, e, f, g)");
        wrong(4, "source s(a, b, c, d, e, f) step ^t = make s with g = 1");
        right("source s(k, a, b) source t(k, d, e, f) step j = join s, t on k within 0");
        wrong(4, "source s(k, a, b, c) source t(k, d, e, f) step ^j = join s, t on k within 0");
        right("source s(a) step w = window s by a every 1 (c = count, d = count, e = count, f = count)");
        wrong(4, "source s(a) step ^w = window s by a every 1 (c = count, d = count, e = count, f = count, g = count)");
    }

    private static void takenNames() {
        wrong(5, "source s(a) source ^s(b)");
        wrong(5, "source s(a) step t = keep s where 1 step ^t = keep s where 1");
        wrong(5, "source s(a, b, ^a)");
        right("source s(s) step t = make s with t = 1");
        wrong(5, S + "step t = make s with ^b = 1");
        wrong(5, S + "step t = make s with c = 1, ^c = 1");
        wrong(5, S + "step t = pick s (a, ^a)");
        wrong(5, S + "source t(a, b) step u = join s, ^t on a within 0");
        wrong(5, "source s(begin) step t = window s by ^begin every 0 (n = count)");
        wrong(5, S + "step t = window s by a every 1 (^begin = count)");
        wrong(5, S + "step t = window s by a every 1 (^a = count)");
        wrong(5, S + "step t = window s by a every 1 (n = count, ^n = count)");
        right(S + "step t = window s by a every 1 (b = count)");
        right("source s(begin, a) step t = window s by a every 1 (n = sum begin)");
    }

    private static void ranges() {
        right("source s(a) delay 0");
        right("source s(a) delay 000001000");
        wrong(6, "source s(a) delay ^1001");
        wrong(6, "source s(a) delay ^999999999");
        right(S + "step t = first s by a within 0");
        right(S + "step t = first s by a within 1000");
        wrong(6, S + "step t = first s by a within ^1001");
        right("source s(a) step t = join s, s on a within 1000");
        wrong(6, "source s(a) step t = join s, s on a within ^1001");
        wrong(6, S + "step t = window s by a every ^0 (n = count)");
        right(S + "step t = window s by a every 1 late 0 (n = count)");
        right(S + "step t = window s by a every 1000 late 1000 (n = count)");
        wrong(6, S + "step t = window s by a every ^1001 (n = count)");
        wrong(6, S + "step t = window s by a every 1000 late ^1001 (n = count)");
    }

    /** A program does not take the room of the ones ahead of it, be they right or wrong. */
    private static void manyPrograms() {
        StreamDesk desk = new StreamDesk();
        String sum = "a" + times("+a", 28);
        String made = " = make s with c = " + sum + ", d = " + sum + ", e = " + sum + ", f = " + sum;
        String program = S + "step t" + made + " step u" + made + " step v" + made;
        for (int i = 0; i < 12; i++) {
            Due.equal("compile of a long program", Feed.compile(desk, program), 0);
            Due.equal("compile of a wrong one", Feed.compile(desk, program + " step v = keep s where a"), 5);
            Due.equal("push", Feed.push(desk, 0, 0, i, 1), 4);
            Due.equal("number of the last column", desk.cell(3, 0, 5), 29 * i);
        }
    }

    /** What an expression yields for a = 7, b = -3 at time 11. */
    private static void yields(String expression, long want) {
        StreamDesk desk = Feed.desk(S + "step t = make s with c = " + expression);
        Feed.push(desk, 0, 11, 7, -3);
        Due.equal(expression, desk.cell(1, 0, 2), want);
    }

    private static void numbers() {
        yields("a - b - 1", 9);
        yields("a - (b - 1)", 11);
        yields("a / 2 * 2", 6);
        yields("a % 4 % 2", 1);
        yields("2 + a * b", -19);
        yields("-a / 2", -3);
        yields("b / 2", -1);
        yields("b % 2", -1);
        yields("a % b", 1);
        yields("(0 - a) % 4", -3);
        yields("a / 0", 0);
        yields("a % 0", 0);
        yields("a / (b + 3)", 0);
        yields("999999999 * 999999999 * 999999999", 999999999L * 999999999L * 999999999L);
        yields("a < b", 0);
        yields("a > b", 1);
        yields("a <= 7", 1);
        yields("a <= 6", 0);
        yields("a >= 7", 1);
        yields("a >= 8", 0);
        yields("a = 7", 1);
        yields("a <> 7", 0);
        yields("a <> 8", 1);
        yields("7 < 7", 0);
        yields("7 > 7", 0);
        yields("a and b", 1);
        yields("a and 0", 0);
        yields("0 or b", 1);
        yields("0 or 0", 0);
        yields("1 or 1 and 0", 1);
        yields("not a", 0);
        yields("not 0", 1);
        yields("not a = 0", 1);
        yields("not (a = 0)", 1);
        yields("not not b", 1);
        yields("-(a + b)", -4);
        yields("- - b", -3);
        yields("abs(b)", 3);
        yields("abs(a)", 7);
        yields("least(a, b)", -3);
        yields("most(a, b)", 7);
        yields("most(least(a, 2), b) + 1", 3);
        yields("time", 11);
        yields("time * 2 = 22", 1);
        yields("2 * a < 15 and time > 10", 1);
        extremes();
    }

    private static void extremes() {
        StreamDesk desk = Feed.desk(S + "step t = make s with c = a / b, d = a % b, e = abs(a), f = -a");
        Feed.push(desk, 0, 0, Long.MIN_VALUE, -1);
        Due.equal("the least number / -1", desk.cell(1, 0, 2), Long.MIN_VALUE);
        Due.equal("the least number % -1", desk.cell(1, 0, 3), 0);
        Due.equal("abs of the least number", desk.cell(1, 0, 4), Long.MIN_VALUE);
        Due.equal("- the least number", desk.cell(1, 0, 5), Long.MIN_VALUE);
    }
}
