import java.util.ArrayList;
import java.util.HashMap;
import java.util.LinkedHashSet;
import java.util.List;
import java.util.Map;
import java.util.Set;
import java.util.regex.Matcher;
import java.util.regex.Pattern;

/** The language of the document: form by its grammar as it stands there, meaning over a tree. */
final class Syntax {
    static final class Mistake extends Exception {
        private static final long serialVersionUID = 1;
        final int error;
        final int position;

        Mistake(int error, int position) {
            this.error = error;
            this.position = position;
        }
    }

    static final class Program {
        final List<Stream> streams = new ArrayList<>();
        final List<Check> checks = new ArrayList<>();
    }

    static final class Stream {
        String name;
        String work;
        List<String> columns = new ArrayList<>();
        final List<Integer> inputs = new ArrayList<>();
        String key;
        long span;
        long late;
        long delay;
        final List<Node> tests = new ArrayList<>();
        final List<String> totals = new ArrayList<>();
    }

    static final class Check {
        int stream;
        Node test;
        String fate;
    }

    static final class Node {
        final String what;
        final Token token;
        final List<Node> kids = new ArrayList<>();
        int column;

        Node(String what, Token token, Node... kids) {
            this.what = what;
            this.token = token;
            this.kids.addAll(List.of(kids));
        }

        long of(Model.Row row) {
            long a = kids.isEmpty() ? 0 : kids.get(0).of(row);
            long b = kids.size() < 2 ? 0 : kids.get(1).of(row);
            switch (what) {
                case "number": return Long.parseLong(token.text);
                case "name": return row.numbers[column];
                case "time": return row.time;
                case "or": return a != 0 || b != 0 ? 1 : 0;
                case "and": return a != 0 && b != 0 ? 1 : 0;
                case "=": return a == b ? 1 : 0;
                case "<>": return a != b ? 1 : 0;
                case "<": return a < b ? 1 : 0;
                case ">": return a > b ? 1 : 0;
                case "<=": return a <= b ? 1 : 0;
                case ">=": return a >= b ? 1 : 0;
                case "+": return a + b;
                case "-": return kids.size() == 1 ? -a : a - b;
                case "*": return a * b;
                case "/": return b == 0 ? 0 : a / b;
                case "%": return b == 0 ? 0 : a % b;
                case "not": return a == 0 ? 1 : 0;
                case "abs": return Math.abs(a);
                case "least": return Math.min(a, b);
                case "most": return Math.max(a, b);
                default: throw new AssertionError(what);
            }
        }
    }

    static final class Token {
        final String kind;
        final String text;
        final int position;

        Token(String kind, String text, int position) {
            this.kind = kind;
            this.text = text;
            this.position = position;
        }
    }

    private static final Set<String> KEYWORDS = Set.of(("source delay step keep where make with pick merge join on "
            + "within first by window every late check else drop hold stop sum count least most last time and or "
            + "not abs").split(" "));
    private static final Pattern TOKEN = Pattern.compile("[a-z][a-z0-9]*|[0-9]+|<=|>=|<>|[(),:=+\\-*/%<>]|[^ \\n]");

    static List<Token> tokens(String text) {
        List<Token> tokens = new ArrayList<>();
        Matcher m = TOKEN.matcher(text);
        while (m.find()) {
            String t = m.group();
            String kind = t;
            if (t.matches("[a-z].*")) {
                kind = t.length() > 8 ? "bad" : KEYWORDS.contains(t) ? t : "name";
            } else if (t.matches("[0-9].*")) {
                kind = t.length() > 9 ? "bad" : "number";
            } else if (!t.matches("<=|>=|<>|[(),:=+\\-*/%<>]")) {
                kind = "bad";
            }
            tokens.add(new Token(kind, t, m.start()));
        }
        tokens.add(new Token("end", "", text.length()));
        return tokens;
    }

    // ---- form, by the grammar alone

    private static final String GRAMMAR = "P: I | P I\n"
            + "N: name | N , name\n"
            + "I: source name ( N ) | source name ( N ) delay number | step name = W | check name : E else F\n"
            + "F: drop | hold | stop\n"
            + "W: keep name where E | make name with M | pick name ( N ) | merge name , name"
            + " | join name , name on name within number | first name by name within number"
            + " | window name by name every number ( T ) | window name by name every number late number ( T )\n"
            + "M: name = E | M , name = E\n"
            + "T: X | T , X\n"
            + "X: name = count | name = sum E | name = least E | name = most E | name = last E\n"
            + "E: B | E or B\n"
            + "B: R | B and R\n"
            + "R: S | S = S | S <> S | S < S | S > S | S <= S | S >= S\n"
            + "S: Q | S + Q | S - Q\n"
            + "Q: A | Q * A | Q / A | Q % A\n"
            + "A: number | name | time | ( E ) | - A | not A | abs ( L ) | least ( L ) | most ( L )\n"
            + "L: E | L , E";
    private static final Map<String, List<String[]>> RULES = new HashMap<>();

    static {
        for (String line : GRAMMAR.split("\n")) {
            List<String[]> rules = new ArrayList<>();
            for (String right : line.substring(3).split(" \\| ")) {
                rules.add(right.trim().split(" "));
            }
            RULES.put(line.substring(0, 1), rules);
        }
    }

    /** A place in a rule, and the token at which the rule was begun. */
    private record Dotted(String left, String[] right, int dot, int from) {
        String due() {
            return dot < right.length ? right[dot] : null;
        }

        Dotted further() {
            return new Dotted(left, right, dot + 1, from);
        }
    }

    /** The number of the first token with which the tokens are not the beginning of a program. */
    static int firstBad(List<Token> tokens) {
        List<Set<Dotted>> chart = new ArrayList<>();
        Set<Dotted> now = new LinkedHashSet<>();
        for (String[] right : RULES.get("P")) {
            now.add(new Dotted("P", right, 0, 0));
        }
        for (int i = 0; ; i++) {
            chart.add(now);
            Set<Dotted> then = new LinkedHashSet<>();
            boolean isWhole = false;
            List<Dotted> agenda = new ArrayList<>(now);
            for (int a = 0; a < agenda.size(); a++) {
                Dotted d = agenda.get(a);
                if (d.due() == null) {
                    isWhole |= d.left.equals("P") && d.from == 0;
                    for (Dotted back : new ArrayList<>(chart.get(d.from))) {
                        if (d.left.equals(back.due()) && now.add(back.further())) {
                            agenda.add(back.further());
                        }
                    }
                } else if (RULES.containsKey(d.due())) {
                    for (String[] right : RULES.get(d.due())) {
                        Dotted begun = new Dotted(d.due(), right, 0, i);
                        if (now.add(begun)) {
                            agenda.add(begun);
                        }
                    }
                } else if (d.due().equals(tokens.get(i).kind)) {
                    then.add(d.further());
                }
            }
            if (tokens.get(i).kind.equals("end")) {
                return isWhole ? -1 : i;
            }
            if (then.isEmpty()) {
                return i;
            }
            now = then;
        }
    }

    // ---- the tree

    private static final class Bad extends RuntimeException {
        private static final long serialVersionUID = 1;
        final int at;
        final boolean isLimit;

        Bad(int at, boolean isLimit) {
            super(null, null, false, false);
            this.at = at;
            this.isLimit = isLimit;
        }
    }

    private final List<Token> tokens;
    private int at;
    private int expressionStart;

    private Syntax(List<Token> tokens) {
        this.tokens = tokens;
    }

    static Program compile(String text) throws Mistake {
        List<Token> tokens = tokens(text);
        int bad = firstBad(tokens);
        List<List<Object>> items = new ArrayList<>();
        Syntax syntax = new Syntax(tokens);
        try {
            do {
                items.add(syntax.item());
            } while (!syntax.sees("end"));
        } catch (Bad b) {
            if (b.isLimit ? bad >= 0 && bad < b.at : bad != b.at) {
                throw new AssertionError("the model's parser and the grammar differ at " + text);
            }
            throw new Mistake(1, tokens.get(b.at).position);
        }
        if (bad >= 0) {
            throw new AssertionError("the model's parser and the grammar differ at " + text);
        }
        Program program = new Program();
        for (List<Object> item : items) {
            Meant.item(program, item);
        }
        return program;
    }

    private boolean sees(String kind) {
        return tokens.get(at).kind.equals(kind);
    }

    private Token take(String kind) {
        if (!sees(kind)) {
            throw new Bad(at, false);
        }
        return tokens.get(at++);
    }

    private Token takeOneOf(String kinds) {
        for (String kind : kinds.split(" ")) {
            if (sees(kind)) {
                return take(kind);
            }
        }
        throw new Bad(at, false);
    }

    /** An item as a list of tokens, expressions, and lists of these. */
    private List<Object> item() {
        List<Object> item = new ArrayList<>();
        Token word = takeOneOf("source step check");
        item.add(word);
        item.add(take("name"));
        switch (word.kind) {
            case "source":
                item.add(names());
                if (sees("delay")) {
                    take("delay");
                    item.add(take("number"));
                }
                break;
            case "step":
                take("=");
                work(item);
                break;
            default:
                take(":");
                item.add(whole());
                take("else");
                item.add(takeOneOf("drop hold stop"));
                break;
        }
        return item;
    }

    private List<Token> names() {
        List<Token> names = new ArrayList<>();
        take("(");
        names.add(take("name"));
        while (sees(",")) {
            take(",");
            names.add(take("name"));
        }
        take(")");
        return names;
    }

    private void work(List<Object> item) {
        Token word = takeOneOf("keep make pick merge join first window");
        item.add(word);
        item.add(take("name"));
        switch (word.kind) {
            case "keep":
                take("where");
                item.add(whole());
                break;
            case "make":
                String lead = "with";
                do {
                    take(lead);
                    item.add(take("name"));
                    take("=");
                    item.add(whole());
                    lead = ",";
                } while (sees(","));
                break;
            case "pick":
                item.add(names());
                break;
            case "merge":
                take(",");
                item.add(take("name"));
                break;
            case "join":
                take(",");
                item.add(take("name"));
                take("on");
                item.add(take("name"));
                take("within");
                item.add(take("number"));
                break;
            case "first":
                take("by");
                item.add(take("name"));
                take("within");
                item.add(take("number"));
                break;
            default:
                window(item);
                break;
        }
    }

    private void window(List<Object> item) {
        take("by");
        item.add(take("name"));
        take("every");
        item.add(take("number"));
        if (sees("late")) {
            take("late");
            item.add(take("number"));
        } else {
            item.add(null);
        }
        String lead = "(";
        do {
            take(lead);
            item.add(take("name"));
            take("=");
            Token total = takeOneOf("count sum least most last");
            item.add(total);
            item.add(total.kind.equals("count") ? null : whole());
            lead = ",";
        } while (sees(","));
        take(")");
    }

    private Node whole() {
        expressionStart = at;
        return expression(0);
    }

    private Token within(String kind, int depthBehind) {
        if (!sees(kind)) {
            throw new Bad(at, false);
        }
        if (at - expressionStart >= 60 || depthBehind > 8) {
            throw new Bad(at, true);
        }
        return take(kind);
    }

    private static final String[][] LEVELS = {
        {"or"}, {"and"}, {"=", "<>", "<", ">", "<=", ">="}, {"+", "-"}, {"*", "/", "%"}};

    private Node expression(int depth) {
        return level(0, depth);
    }

    private Node level(int level, int depth) {
        if (level == LEVELS.length) {
            return factor(depth);
        }
        Node left = level(level + 1, depth);
        for (boolean more = true; more;) {
            more = false;
            for (String sign : LEVELS[level]) {
                if (sees(sign)) {
                    Token t = within(sign, depth);
                    left = new Node(sign, t, left, level(level + 1, depth));
                    more = level != 2;
                    break;
                }
            }
        }
        return left;
    }

    private Node factor(int depth) {
        Token t = tokens.get(at);
        switch (t.kind) {
            case "number":
            case "name":
            case "time":
                return new Node(t.kind, within(t.kind, depth));
            case "(":
                within("(", depth + 1);
                Node inner = expression(depth + 1);
                within(")", depth);
                return inner;
            case "-":
            case "not":
                within(t.kind, depth + 1);
                return new Node(t.kind, t, factor(depth + 1));
            case "abs":
            case "least":
            case "most":
                within(t.kind, depth);
                Node call = new Node(t.kind, t);
                String lead = "(";
                do {
                    within(lead, depth + 1);
                    call.kids.add(expression(depth + 1));
                    lead = ",";
                } while (sees(","));
                within(")", depth);
                return call;
            default:
                throw new Bad(at, false);
        }
    }
}
