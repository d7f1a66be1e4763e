import java.util.ArrayList;
import java.util.HashSet;
import java.util.List;

/** The meaning of an item of the model's tree: the first mistake in it, or what it adds. */
final class Meant {
    private final Syntax.Program program;
    private final List<Object> item;

    private Meant(Syntax.Program program, List<Object> item) {
        this.program = program;
        this.item = item;
    }

    static void item(Syntax.Program program, List<Object> item) throws Syntax.Mistake {
        Meant meant = new Meant(program, item);
        if (meant.token(0).kind.equals("check")) {
            meant.check();
        } else {
            meant.stream();
        }
    }

    private Syntax.Token token(int i) {
        return (Syntax.Token) item.get(i);
    }

    private static void test(boolean right, int error, Syntax.Token at) throws Syntax.Mistake {
        if (!right) {
            throw new Syntax.Mistake(error, at.position);
        }
    }

    private int streamOf(Syntax.Token name) throws Syntax.Mistake {
        int found = -1;
        for (int i = 0; i < program.streams.size(); i++) {
            if (program.streams.get(i).name.equals(name.text)) {
                found = i;
            }
        }
        test(found >= 0, 2, name);
        return found;
    }

    private static long range(Syntax.Token number, long least) throws Syntax.Mistake {
        long n = Long.parseLong(number.text);
        test(n >= least && n <= 1000, 6, number);
        return n;
    }

    private static Syntax.Node meantBy(Object tree, List<String> columns) throws Syntax.Mistake {
        Syntax.Node node = (Syntax.Node) tree;
        for (Syntax.Node kid : node.kids) {
            meantBy(kid, columns);
        }
        if (node.what.equals("name")) {
            node.column = columns.indexOf(node.token.text);
            test(node.column >= 0, 2, node.token);
        }
        if (node.what.equals("abs")) {
            test(node.kids.size() == 1, 3, node.token);
        }
        if (node.what.equals("least") || node.what.equals("most")) {
            test(node.kids.size() == 2, 3, node.token);
        }
        return node;
    }

    private void check() throws Syntax.Mistake {
        test(program.checks.size() < 8, 4, token(0));
        Syntax.Check check = new Syntax.Check();
        check.stream = streamOf(token(1));
        check.test = meantBy(item.get(2), program.streams.get(check.stream).columns);
        check.fate = token(3).kind;
        program.checks.add(check);
    }

    private void stream() throws Syntax.Mistake {
        test(program.streams.size() < 12, 4, token(0));
        Syntax.Stream stream = new Syntax.Stream();
        stream.name = token(1).text;
        for (Syntax.Stream s : program.streams) {
            test(!s.name.equals(stream.name), 5, token(1));
        }
        if (token(0).kind.equals("source")) {
            source(stream);
        } else {
            step(stream);
        }
        test(stream.columns.size() <= 6, 4, token(1));
        program.streams.add(stream);
    }

    private static void addColumn(Syntax.Stream stream, Syntax.Token name) throws Syntax.Mistake {
        test(!stream.columns.contains(name.text), 5, name);
        stream.columns.add(name.text);
    }

    @SuppressWarnings("unchecked")
    private List<Syntax.Token> names(int i) {
        return (List<Syntax.Token>) item.get(i);
    }

    private void source(Syntax.Stream stream) throws Syntax.Mistake {
        stream.work = "source";
        for (Syntax.Token name : names(2)) {
            addColumn(stream, name);
        }
        if (item.size() > 3) {
            stream.delay = range(token(3), 0);
        }
    }

    private void step(Syntax.Stream stream) throws Syntax.Mistake {
        stream.work = token(2).kind;
        stream.inputs.add(streamOf(token(3)));
        Syntax.Stream s = program.streams.get(stream.inputs.get(0));
        Syntax.Stream t = s;
        if (stream.work.equals("merge") || stream.work.equals("join")) {
            stream.inputs.add(streamOf(token(4)));
            t = program.streams.get(stream.inputs.get(1));
        }
        switch (stream.work) {
            case "keep":
                stream.tests.add(meantBy(item.get(4), s.columns));
                stream.columns = s.columns;
                break;
            case "make":
                stream.columns.addAll(s.columns);
                for (int i = 4; i < item.size(); i += 2) {
                    addColumn(stream, token(i));
                    stream.tests.add(meantBy(item.get(i + 1), s.columns));
                }
                break;
            case "pick":
                for (Syntax.Token name : names(4)) {
                    test(s.columns.contains(name.text), 2, name);
                    addColumn(stream, name);
                }
                break;
            case "merge":
                test(s.columns.equals(t.columns), 3, token(2));
                stream.columns = s.columns;
                break;
            case "join":
                join(stream, s, t);
                break;
            case "first":
                stream.key = key(token(4), s, s);
                stream.span = range(token(5), 0);
                stream.columns = s.columns;
                break;
            default:
                window(stream, s);
                break;
        }
    }

    private static String key(Syntax.Token k, Syntax.Stream s, Syntax.Stream t) throws Syntax.Mistake {
        test(s.columns.contains(k.text) && t.columns.contains(k.text), 2, k);
        return k.text;
    }

    private void join(Syntax.Stream stream, Syntax.Stream s, Syntax.Stream t) throws Syntax.Mistake {
        stream.key = key(token(5), s, t);
        stream.span = range(token(6), 0);
        List<String> others = new ArrayList<>(t.columns);
        others.remove(stream.key);
        HashSet<String> shared = new HashSet<>(others);
        shared.retainAll(s.columns);
        test(shared.isEmpty(), 5, token(4));
        stream.columns.addAll(s.columns);
        stream.columns.addAll(others);
    }

    private void window(Syntax.Stream stream, Syntax.Stream s) throws Syntax.Mistake {
        stream.key = key(token(4), s, s);
        test(!stream.key.equals("begin"), 5, token(4));
        stream.span = range(token(5), 1);
        stream.late = item.get(6) == null ? 0 : range(token(6), 0);
        stream.columns.add(stream.key);
        stream.columns.add("begin");
        for (int i = 7; i < item.size(); i += 3) {
            addColumn(stream, token(i));
            stream.totals.add(token(i + 1).kind);
            stream.tests.add(item.get(i + 2) == null ? null : meantBy(item.get(i + 2), s.columns));
        }
    }
}
