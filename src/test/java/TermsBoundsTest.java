import java.math.BigInteger;

/** Terms: the numbers at their bounds, what wraps around, and the division by 0. */
public final class TermsBoundsTest {
    private static final long MAX = Long.MAX_VALUE;
    private static final long MIN = Long.MIN_VALUE;

    private TermsBoundsTest() {
    }

    public static void main(String[] args) {
        numbersOf64Bits();
        sumsWrapAround();
        differencesWrapAround();
        productsWrapAround();
        negationWrapsAround();
        absWrapsAround();
        sumOfWindowWrapsAround();
        digestWrapsAround();
        divisionIsCut();
        divisionByZero();
        remainderHasSignOfLeft();
        remainderByZero();
        divisionByZeroInCheck();
        relationsOfExtremes();
        andOrNot();
        leastAndMostOfExtremes();
        totalsOfExtremes();
        positionsFromZero();
        Due.end();
    }

    /** What an expression yields for the columns a and b at time 11. */
    private static void yields(String expression, long a, long b, long want) {
        StreamDesk desk = Feed.desk("source s(a, b) step t = make s with c = " + expression);
        Feed.push(desk, 0, 11, a, b);
        Due.equal(expression + " for a = " + a + ", b = " + b, desk.cell(1, 0, 2), want);
    }

    private static void numbersOf64Bits() {
        Due.sentence("Numbers are 64-bit integers");
        for (long x : new long[] {MIN, MIN + 1, -1L << 32, -1L << 31, -1, 0, 1, 1L << 31, 1L << 32, 1L << 53 | 1, MAX - 1, MAX}) {
            yields("a", x, 0, x);
        }
    }

    private static void sumsWrapAround() {
        Due.sentence("what is reckoned with them wraps around: +");
        yields("a + b", MAX, 0, MAX);
        yields("a + b", MAX - 1, 1, MAX);
        yields("a + b", MAX, 1, MIN);
        yields("a + 1", MAX, 0, MIN);
        yields("a + b", MAX, MAX, -2);
        yields("a + b", MIN + 1, -1, MIN);
        yields("a + b", MIN, -1, MAX);
        yields("a + b", MIN, MIN, 0);
    }

    private static void differencesWrapAround() {
        Due.sentence("what is reckoned with them wraps around: -");
        yields("a - b", MIN + 1, 1, MIN);
        yields("a - b", MIN, 1, MAX);
        yields("a - b", MAX, -1, MIN);
        yields("a - b", -1, MIN, MAX);
        yields("a - b", 0, MIN, MIN);
        yields("a - b", MIN, MIN, 0);
        yields("a - b", MIN, MAX, 1);
    }

    private static void productsWrapAround() {
        Due.sentence("what is reckoned with them wraps around: *");
        yields("a * b", 1L << 31, 1L << 31, 1L << 62);
        yields("a * b", 1L << 32, 1L << 31, MIN);
        yields("a * b", 1L << 32, 1L << 32, 0);
        yields("a * b", MAX, 2, -2);
        yields("a * b", MIN + 1, -1, MAX);
        yields("a * b", MIN, -1, MIN);
        yields("a * b", 3037000499L, 3037000499L, 9223372030926249001L);
        yields("a * b", 3037000500L, 3037000500L, -9223372036709301616L);
    }

    private static void negationWrapsAround() {
        Due.sentence("what is reckoned with them wraps around: - in front");
        yields("-a", MAX, 0, MIN + 1);
        yields("-a", MIN + 1, 0, MAX);
        yields("-a", MIN, 0, MIN);
        yields("- -a", MIN, 0, MIN);
    }

    private static void absWrapsAround() {
        Due.sentence("what is reckoned with them wraps around: abs");
        yields("abs(a)", -1, 0, 1);
        yields("abs(a)", 0, 0, 0);
        yields("abs(a)", 1, 0, 1);
        yields("abs(a)", MAX, 0, MAX);
        yields("abs(a)", MIN + 1, 0, MAX);
        yields("abs(a)", MIN, 0, MIN);
    }

    /** The row of a window over these numbers. */
    private static void windowYields(String total, long want, long... numbers) {
        StreamDesk desk = Feed.desk("source s(k, a) step w = window s by k every 5 (x = " + total + ")");
        for (long number : numbers) {
            Feed.push(desk, 0, 0, 7, number);
        }
        Feed.push(desk, 0, 5, 8, 0);
        Due.equal("rows of the window", desk.rows(1), 1);
        Due.equal(total, desk.cell(1, 0, 2), want);
    }

    private static void sumOfWindowWrapsAround() {
        Due.sentence("what is reckoned with them wraps around: the sum of a window");
        windowYields("sum a", MAX, MAX - 1, 1);
        windowYields("sum a", MIN, MAX, 1);
        windowYields("sum a", MAX, MIN, -1);
        windowYields("sum a", 0, MIN, MIN);
        windowYields("sum a + 1", MAX, MAX, MAX - 1, MAX);
    }

    private static void digestWrapsAround() {
        Due.sentence("for each of the following numbers x, d becomes d * 31 + x, which wraps around as a 64-bit integer");
        StreamDesk desk = Feed.desk("source s(a, b, c, d)");
        Feed.push(desk, 0, 1000000, MAX, MIN, -1, MAX);
        Due.equal("digest", desk.digest(),
                mixed(1, 0, 0, 1, 0, 0, 0, 0, 1000000, 1, 1000000, MAX, MIN, -1, MAX));
        Feed.push(desk, 0, 0, MIN, MIN, MIN, MIN);
        Due.equal("digest", desk.digest(),
                mixed(1, 0, 0, 2, 0, 0, 0, 0, 1000000, 2, 1000000, MAX, MIN, -1, MAX, 0, MIN, MIN, MIN, MIN));
    }

    /** Reckoned with numbers of any length, and cut to 64 bits at the end alone. */
    private static long mixed(long... numbers) {
        BigInteger d = BigInteger.valueOf(281);
        for (long x : numbers) {
            d = d.multiply(BigInteger.valueOf(31)).add(BigInteger.valueOf(x));
        }
        return d.longValue();
    }

    private static void divisionIsCut() {
        Due.sentence("/ (cut towards 0)");
        yields("a / b", 5, 3, 1);
        yields("a / b", 6, 3, 2);
        yields("a / b", 7, 3, 2);
        yields("a / b", -5, 3, -1);
        yields("a / b", -6, 3, -2);
        yields("a / b", -7, 3, -2);
        yields("a / b", 7, -3, -2);
        yields("a / b", -7, -3, 2);
        yields("a / b", 2, 3, 0);
        yields("a / b", -2, 3, 0);
        yields("a / b", MAX, 1, MAX);
        yields("a / b", MAX, -1, MIN + 1);
        yields("a / b", MIN, 1, MIN);
        yields("a / b", MIN + 1, -1, MAX);
        yields("a / b", MIN, -1, MIN);
        yields("a / b", MIN, MIN, 1);
        yields("a / b", MAX, MIN, 0);
    }

    private static void divisionByZero() {
        Due.sentence("/ by 0 yields 0");
        for (long a : new long[] {MIN, -1, 0, 1, 7, MAX}) {
            yields("a / b", a, -1, -a);
            yields("a / b", a, 0, 0);
            yields("a / b", a, 1, a);
            yields("a / 0", a, 0, 0);
        }
        yields("1 + a / b * 2", 7, 0, 1);
        yields("a / (b - b)", 7, 3, 0);
        yields("a / (a / b)", 7, 8, 0);
    }

    private static void remainderHasSignOfLeft() {
        Due.sentence("% (with the sign of the left operand)");
        yields("a % b", 5, 3, 2);
        yields("a % b", 6, 3, 0);
        yields("a % b", 7, 3, 1);
        yields("a % b", -5, 3, -2);
        yields("a % b", -6, 3, 0);
        yields("a % b", 5, -3, 2);
        yields("a % b", -5, -3, -2);
        yields("a % b", MAX, MIN, MAX);
        yields("a % b", MIN, MAX, -1);
        yields("a % b", MIN, -1, 0);
        yields("a % b", MIN, 1, 0);
    }

    private static void remainderByZero() {
        Due.sentence("% by 0 yields 0");
        for (long a : new long[] {MIN, -1, 0, 1, 7, MAX}) {
            yields("a % b", a, -1, 0);
            yields("a % b", a, 0, 0);
            yields("a % b", a, 1, 0);
            yields("a % 0", a, 0, 0);
        }
        yields("3 - a % b", 7, 0, 3);
    }

    private static void divisionByZeroInCheck() {
        Due.sentence("/ and % by 0 yield 0: in a check, a keep and a window");
        StreamDesk desk = Feed.desk("source s(a, b) check s: a / b >= 0 else hold step t = keep s where a % b"
                + " step w = window s by b every 1 (x = sum a / b, y = most a % b)");
        Due.equal("push", Feed.push(desk, 0, 0, 7, 0), 1);
        Due.equal("push", Feed.push(desk, 0, 0, 7, 4), 2);
        Due.equal("push", Feed.push(desk, 0, 1, 8, 4), 3);
        Rows.equal(desk, 2, new long[] {1, 0, 0, 0, 0}, new long[] {1, 4, 0, 1, 3});
    }

    private static void relationsOfExtremes() {
        Due.sentence("A relation yields 1 or 0, also where a difference would wrap around");
        String[] signs = {"<", "<=", "=", "<>", ">=", ">"};
        int[] less = {1, 1, 0, 1, 0, 0};
        int[] same = {0, 1, 1, 0, 1, 0};
        int[] more = {0, 0, 0, 1, 1, 1};
        long[][] pairs = {{MIN, MAX}, {MIN, 1}, {-2, MAX}, {MIN, MIN + 1}, {MAX - 1, MAX}, {1L << 32, 1L << 33}, {0, 1L << 32}};
        for (int i = 0; i < signs.length; i++) {
            for (long[] pair : pairs) {
                yields("a " + signs[i] + " b", pair[0], pair[1], less[i]);
                yields("b " + signs[i] + " a", pair[0], pair[1], more[i]);
                yields("a " + signs[i] + " b", pair[0], pair[0], same[i]);
            }
        }
    }

    private static void andOrNot() {
        Due.sentence("A relation, and, or, not yield 1 or 0; a number other than 0 is true.");
        long[] numbers = {MIN, -2, -1, 0, 1, 2, 1L << 32, MAX};
        for (long a : numbers) {
            yields("not a", a, 0, a == 0 ? 1 : 0);
            yields("not not a", a, 0, a == 0 ? 0 : 1);
            for (long b : numbers) {
                yields("a and b", a, b, a != 0 && b != 0 ? 1 : 0);
                yields("a or b", a, b, a != 0 || b != 0 ? 1 : 0);
            }
        }
        yields("a and b and 3", 5, 7, 1);
        yields("0 or a or 0", 5, 7, 1);
        yields("(a and b) + (a or b) + (a < b) + not 0", 5, 7, 4);
    }

    private static void leastAndMostOfExtremes() {
        Due.sentence("least and most, also where a difference would wrap around");
        yields("least(a, b)", MIN, MAX, MIN);
        yields("least(a, b)", MAX, MIN, MIN);
        yields("most(a, b)", MIN, MAX, MAX);
        yields("most(a, b)", MAX, MIN, MAX);
        yields("least(a, b)", 5, 6, 5);
        yields("least(a, b)", 5, 5, 5);
        yields("least(a, b)", 5, 4, 4);
        yields("most(a, b)", 5, 6, 6);
        yields("most(a, b)", 5, 5, 5);
        yields("most(a, b)", 5, 4, 5);
    }

    private static void totalsOfExtremes() {
        Due.sentence("least, most: of the numbers of the expression, also of one number and of extremes");
        windowYields("least a", MAX, MAX);
        windowYields("least a", MIN, MAX, MIN, MAX);
        windowYields("least a", 1, 2, 1, 2);
        windowYields("least a", 5, 5);
        windowYields("most a", MIN, MIN);
        windowYields("most a", MAX, MIN, MAX, MIN);
        windowYields("most a", -1, -2, -1, -2);
        windowYields("most a", -5, -5);
        windowYields("last a", MIN, MAX, MIN);
        windowYields("last a", MAX, MIN, MAX);
    }

    private static void positionsFromZero() {
        Due.sentence("Positions are counted from 0, in bytes.");
        Verdict.wrong(1, "^#source s(a)");
        Verdict.wrong(1, " ^#source s(a)");
        Verdict.wrong(1, "\n\n^#source s(a)");
        Verdict.wrong(1, "^\u00ff\u00fe");
        Verdict.wrong(2, "check ^s: 1 else drop");
        Due.sentence("numbered from 0: streams, checks, rows, columns, held rows, marks");
        StreamDesk desk = Feed.desk("source s(a) check s: a else hold");
        Feed.push(desk, 0, 3, 5);
        Feed.push(desk, 0, 4, 0);
        Due.equal("first column of the first row of the first stream", desk.cell(0, 0, 0), 5);
        Due.equal("the first check", desk.broken(0), 1);
        Rows.heldEqual(desk, 0, 0, 0, 4, 0);
        Due.equal("the first mark", desk.mark(), 0);
    }
}
