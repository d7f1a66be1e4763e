import java.util.ArrayList;
import java.util.List;

/** Section 1, errors of form: the first wrong token, the depth, and the length of expressions. */
public final class FormBoundsTest {
    private static final String S = "source s(a, b) ";

    /** Where expressions stand: what is ahead of one, and what is behind it. */
    private static final String[][] PLACES = {
        {S + "check s: ", " else drop"},
        {S + "step t = keep s where ", ""},
        {S + "step t = make s with c = ", ""},
        {S + "step t = make s with c = 1, d = ", ", e = 2"},
        {S + "step t = window s by a every 1 (n = sum ", ")"},
        {S + "step t = window s by a every 1 (n = count, m = least ", ", o = most a)"},
        {S + "step t = window s by a every 1 (m = most ", ", n = count)"},
        {S + "step t = window s by a every 1 (n = sum a, m = last ", ")"}};

    /** A program with each form of the grammar; behind a | it may be at its end. */
    private static final String ALL_FORMS = "source s ( k , a ) | delay 5 | source t ( k ) | check s : a + ( k ) else drop | check t :"
            + " k <> 1 or not 2 and time else hold | check s : - a % 2 >= k / 3 else stop | step m = make s with x = 1 | + a"
            + " | , y = - 2 | * least ( x1 , 2 ) | step p = keep s where not abs ( a ) | <= 1 | step q = pick s ( k , a ) |"
            + " step r = merge q , q | step u = join s , t on k within 3 | step f = first s by k within 4 | step v = window s by k"
            + " every 5 ( n = count ) | step w = window s by k every 5 late 6 ( n = sum a * 2 , o = least ( a ) , l = most most"
            + " ( a , k ) , z = last time ) |";

    private static final String[] TOKENS = ("source delay step keep where make with pick merge join on within first by window every"
            + " late check else drop hold stop sum count least most last time and or not abs ( ) , : = + - * / % < > <= >= <>"
            + " s k zz 7 999999999 abcdefghi 1234567890 # ! A _ \u0000 \u007f \u00ff").split(" ");

    private FormBoundsTest() {
    }

    public static void main(String[] args) {
        endOfTheTape();
        firstWrongToken();
        formAheadOfMeaning();
        depthOfBrackets();
        depthOfSigns();
        depthOfFunctions();
        depthOfAllTogether();
        depthIsLessBehindBrackets();
        sixtyTokens();
        sixtyFirstToken();
        tokensInBracketsCount();
        tokensOfEachExpression();
        tokensBehindAnExpression();
        relationsDoNotGroup();
        Due.end();
    }

    private static String times(String text, int n) {
        return text.repeat(n);
    }

    private static void right(String expression) {
        for (String[] place : PLACES) {
            Verdict.right(place[0] + expression + place[1]);
        }
    }

    private static void wrong(String marked) {
        for (String[] place : PLACES) {
            Verdict.wrong(1, place[0] + marked + place[1]);
        }
    }

    private static String allForms() {
        return ALL_FORMS.replace("x1", "k");
    }

    /** The program is cut behind each of its tokens. */
    private static void endOfTheTape() {
        Due.sentence("the end of the tape (at its length)");
        StringBuilder program = new StringBuilder();
        int ends = 0;
        boolean isWhole = false;
        for (String token : allForms().split(" ")) {
            if (token.equals("|")) {
                ends++;
                isWhole = true;
                continue;
            }
            cutHere(program.toString(), isWhole);
            isWhole = false;
            program.append(program.length() > 0 ? " " : "").append(token);
        }
        cutHere(program.toString(), isWhole);
        Due.equal("ends of items", ends, 18);
    }

    private static void cutHere(String program, boolean isWhole) {
        if (isWhole) {
            Verdict.right(program);
            Verdict.right(program + "  ");
        } else {
            Verdict.wrongAt(1, program.length(), program);
            Verdict.wrongAt(1, program.length() + 3, program + " \n ");
        }
    }

    /** Behind each beginning of a program each token that could stand there, and each that could not. */
    private static void firstWrongToken() {
        Due.sentence("Error 1: the first token with which the tokens so far are not the beginning of a program."
                + " The position is that of its first byte.");
        StringBuilder program = new StringBuilder();
        for (String token : allForms().split(" ")) {
            if (token.equals("|")) {
                continue;
            }
            for (String other : TOKENS) {
                asModel(program + other);
                asModel(program + other + " " + token + " 5");
            }
            program.append(token).append(" ");
        }
    }

    private static void asModel(String text) {
        int error = 0;
        int at = -1;
        try {
            Syntax.compile(text);
        } catch (Syntax.Mistake m) {
            error = m.error;
            at = m.position;
        }
        StreamDesk desk = new StreamDesk();
        Due.equal("compile of " + text, Feed.compile(desk, text), error);
        Due.equal("errorAt of " + text, desk.errorAt(), at);
    }

    private static void formAheadOfMeaning() {
        Due.sentence("Only if there is no error of form, the meaning is looked at");
        String[] meant = {"source s(a, a) ", S + "check q: 1 else drop ", S + "check s: q else drop ", S + "check s: abs(1, 2) else drop ",
            S + "step t = merge q, q ", "source s(a) delay 1001 ", "source s(a, b, c, d, e, f, g) "};
        for (String program : meant) {
            StreamDesk desk = new StreamDesk();
            Due.yes("an error of meaning in " + program, Feed.compile(desk, program) > 1);
            Verdict.wrong(1, program + "^#");
            Verdict.wrong(1, program + "source^");
            Verdict.wrong(1, program + "source x(abc, ^abcdefghi)");
        }
    }

    private static void depthOfBrackets() {
        Due.sentence("It may be at most 8: 1 greater between a ( in it and its )");
        right(times("(", 7) + "a" + times(")", 7));
        right(times("(", 8) + "a" + times(")", 8));
        wrong(times("(", 8) + "^(a" + times(")", 9));
        wrong(times("(", 8) + "^((a" + times(")", 10));
        right("1 + " + times("(", 8) + "a + a < a" + times(")", 8) + " - 1");
        wrong("1 + " + times("(", 8) + "a + ^(a)" + times(")", 8) + " - 1");
    }

    private static void depthOfSigns() {
        Due.sentence("It may be at most 8: and for the operand of a - or not (in front)");
        right(times("-", 7) + "a");
        right(times("-", 8) + "a");
        wrong(times("-", 8) + "^-a");
        right(times("not ", 7) + "a");
        right(times("not ", 8) + "a");
        wrong(times("not ", 8) + "^not a");
        right(times("- not ", 4) + "a");
        wrong(times("- not ", 4) + "^-a");
        wrong(times("not - ", 4) + "^not a");
        right("a - " + times("-", 8) + "a");
        wrong("a - " + times("-", 8) + "^-a");
        // a sign between two operands makes nothing deeper
        right(times("-", 8) + "a - a - a - a * a / a % a < a and a or a");
        right(times("(", 8) + "a - a - a" + times(")", 8));
    }

    private static void depthOfFunctions() {
        Due.sentence("It may be at most 8: 1 greater between a ( in it and its ), also that of a function");
        right(times("abs(", 7) + "a" + times(")", 7));
        right(times("abs(", 8) + "a" + times(")", 8));
        wrong(times("abs(", 8) + "abs^(a" + times(")", 9));
        right(times("least(a, ", 8) + "a" + times(")", 8));
        wrong(times("least(a, ", 8) + "most^(a, a" + times(")", 9));
        right(times("most(", 8) + "a" + times(", a)", 8));
        wrong(times("most(", 8) + "most^(a" + times(", a)", 9));
        wrong(times("(", 8) + "abs^(a)" + times(")", 8));
        right(times("(", 7) + "abs(a)" + times(")", 7));
        // the function's word itself is not too deep
        wrong(times("(", 8) + "abs ^a" + times(")", 8));
    }

    private static void depthOfAllTogether() {
        Due.sentence("the (, - or not behind which the depth would be 9");
        right("-(not abs(-(not abs(a))))");
        wrong("-(not abs(-(not abs(^-a))))");
        wrong("-(not abs(-(not abs(^not a))))");
        wrong("-(not abs(-(not abs(^(a)))))");
        wrong("-(not abs(-(not abs(least^(a, a)))))");
        right("least(a, " + times("(", 7) + "a" + times(")", 7) + ")");
        wrong("least(a, " + times("(", 7) + "^(a)" + times(")", 7) + ")");
        wrong("least(" + times("(", 7) + "a" + times(")", 7) + ", " + times("-", 7) + "^-a)");
        right("least(" + times("(", 7) + "a" + times(")", 7) + ", " + times("-", 7) + "a)");
        wrong(times("-", 7) + "(^(a))");
        right(times("-", 7) + "(a)");
        wrong(times("-", 8) + "^(a)");
        wrong(times("not ", 8) + "abs^(a)");
    }

    private static void depthIsLessBehindBrackets() {
        Due.sentence("1 greater between a ( in it and its ), and for the operand of a - or not");
        String eight = times("(", 8) + "a" + times(")", 8);
        right(eight + " + " + eight);
        right("least(" + eight.substring(1, 16) + ", " + eight.substring(1, 16) + ")");
        wrong(eight + " + " + times("(", 8) + "^(a" + times(")", 9));
        right(times("-", 8) + "a * " + times("-", 8) + "a");
        right(times("not ", 8) + "a and " + times("-", 8) + "a = " + eight);
        right("-(a) + -(a) + " + eight);
        right("abs(a) + " + eight);
        right("(-a - (a)) * " + times("(", 7) + "-a" + times(")", 7));
        wrong("(-a - (a)) * " + times("(", 7) + "-^-a" + times(")", 7));
    }

    private static void sixtyTokens() {
        Due.sentence("An expression that is in no other one has at most 60 tokens.");
        right("a" + times("+a", 28));
        right("a" + times("+a", 29));
        right("-a" + times("+a", 29));
        wrong("-a" + times("+a", 29) + "^+a");
        wrong("a" + times("+a", 29) + "+^a");
        right("not a" + times(" and a", 29));
        wrong("not a" + times(" or a", 29) + " ^or a");
        right("time" + times("*time", 29));
        wrong("time" + times("%time", 29) + "%^time");
        // the length in bytes does not matter
        right("a" + times("   +\n\n  a", 29));
        right("123456789" + times("+123456789", 29));
        wrong("123456789" + times("+123456789", 29) + "+^1");
    }

    private static void sixtyFirstToken() {
        Due.sentence("the token that would be the 61st of an expression");
        for (String sign : "+ - * / % = <> < > <= >= and or".split(" ")) {
            wrong("-a" + times("+a", 29) + " ^" + sign + " a");
            right("-a" + times("+a", 28) + " " + sign + " a");
        }
        for (String begin : "b 1 time (b) -b abs(b) least(b,b) most(b,b)".split(" ")) {
            wrong("a" + times("+a", 29) + "+ ^" + begin);
            right("a" + times("+a", 26) + "+ " + begin);
        }
        wrong("a" + times("+a", 29) + "and ^not b");
        right("a" + times("+a", 28) + "* - b");
        right("a" + times("+a", 28) + "* not b");
        wrong("a" + times("+a", 28) + "+ (b ^)");
        right("-a" + times("+a", 27) + "+ (b)");
        right("a" + times("+a", 27) + "+ abs(b)");
        wrong("-a" + times("+a", 27) + "+ abs(b^)");
        wrong("a" + times("+a", 28) + "+ abs(^b)");
        wrong("-a" + times("+a", 28) + "+ abs^(b)");
        wrong("a" + times("+a", 29) + "+ ^abs(b)");
        right("a" + times("+a", 26) + "+ least(b, b)");
        wrong("-a" + times("+a", 26) + "+ least(b, b^)");
        wrong("a" + times("+a", 27) + "+ least(b, ^b)");
        wrong("-a" + times("+a", 27) + "+ least(b^, b)");
    }

    private static void tokensInBracketsCount() {
        Due.sentence("An expression that is in no other one: those in others count together with it");
        right("(a" + times("+a", 28) + ")");
        right("-(a" + times("+a", 28) + ")");
        wrong("- -(a" + times("+a", 28) + "^)");
        wrong("(a" + times("+a", 29) + "^)");
        right("abs(a" + times("+a", 28) + ")");
        wrong("abs(-a" + times("+a", 28) + "^)");
        right("least(a" + times("+a", 14) + ", a" + times("+a", 13) + ")");
        wrong("least(a" + times("+a", 14) + ", -a" + times("+a", 13) + "^)");
        wrong("-least(a" + times("+a", 28) + "^, a)");
        wrong("-most(a" + times("+a", 28) + "^, a)");
        right(times("(", 8) + "a" + times("+a", 21) + times(")", 8));
        right(times("(", 7) + "-a" + times("+a", 22) + times(")", 7));
        wrong(times("(", 8) + "a" + times("+a", 22) + times(")", 7) + "^)");
    }

    private static void tokensOfEachExpression() {
        Due.sentence("has at most 60 tokens: each expression by itself");
        String sixty = "-a" + times("+a", 29);
        Verdict.right(S + "step t = make s with c = " + sixty + ", d = " + sixty + ", e = " + sixty + ", f = " + sixty);
        Verdict.wrong(1, S + "step t = make s with c = " + sixty + ", d = " + sixty + " ^+ 1, e = 1");
        Verdict.right(S + "step t = window s by a every 1 (n = sum " + sixty + ", m = least " + sixty + ", o = last " + sixty + ")");
        Verdict.wrong(1, S + "step t = window s by a every 1 (n = sum " + sixty + ", m = most " + sixty + " ^< 1)");
        Verdict.right(S + "check s: " + sixty + " else drop check s: " + sixty + " else hold");
        Verdict.wrong(1, S + "check s: " + sixty + " else drop check s: " + sixty + " ^or 1 else hold");
    }

    private static void tokensBehindAnExpression() {
        Due.sentence("the 61st of an expression: what stands behind it is not of it");
        String sixty = "-a" + times("+a", 29);
        right(sixty);
        Verdict.right(S + "step t = keep s where " + sixty + " source u(a)");
        Verdict.right(S + "step t = keep s where " + sixty + " step u = keep s where 1");
        Verdict.right(S + "step t = keep s where " + sixty + " check s: 1 else drop");
        Verdict.wrong(1, S + "step t = keep s where " + sixty + " ^else drop");
        Verdict.wrong(1, S + "step t = keep s where " + sixty + "^, a");
    }

    private static void relationsDoNotGroup() {
        Due.sentence("relation = sum [ ( = | <> | < | > | <= | >= ) sum ]: at most one sign");
        for (String first : "= <> < > <= >=".split(" ")) {
            right("a " + first + " b");
            for (String second : "= <> < > <= >=".split(" ")) {
                wrong("a " + first + " b ^" + second + " a");
                right("(a " + first + " b) " + second + " a");
                right("a " + first + " b and b " + second + " a");
            }
        }
    }
}
