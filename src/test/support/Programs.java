import java.util.ArrayList;
import java.util.List;
import java.util.Random;

/** Makes programs, most of them right ones, always the same ones of the same Random. */
final class Programs {
    private final Random random;
    private final List<String> names = new ArrayList<>();
    private final List<List<String>> columns = new ArrayList<>();
    private final StringBuilder text = new StringBuilder();
    private double slips;

    private Programs(Random random) {
        this.random = random;
    }

    /** A program; it slips (unknown names, too many columns, ..) with this likelihood a choice. */
    static String make(Random random, double slips) {
        Programs p = new Programs(random);
        p.slips = slips;
        p.items();
        return p.text.toString();
    }

    /** The same program but for one token, or one sign. */
    static String spoil(Random random, String program) {
        String[] more = {"(", ")", ",", "=", "-", "not", "<", ">", "<>", "else", "step", "7", "x", "source", "1234567890",
            "abcdefghi", "#", "\n", "  ", "least", "abs", "by", "every", "or", "and", "time", "count", ":", "%", "A", "\t"};
        int at = random.nextInt(program.length() + 1);
        int end = Math.min(program.length(), at + random.nextInt(3));
        return program.substring(0, at) + (random.nextInt(3) == 0 ? "" : more[random.nextInt(more.length)])
                + program.substring(end);
    }

    private boolean slips() {
        return random.nextDouble() < slips;
    }

    private int smallOrNot(int small) {
        return random.nextInt(random.nextInt(4) == 0 ? 1000 : small);
    }

    private String oneOf(List<String> list) {
        return slips() ? "q" : list.get(random.nextInt(list.size()));
    }

    private void items() {
        int items = 1 + random.nextInt(14);
        for (int i = 0; i < items; i++) {
            int what = random.nextInt(10);
            if (i == 0 || what == 0) {
                source();
            } else if (what < 3) {
                check();
            } else {
                step();
            }
            text.append(random.nextInt(4) == 0 ? "\n" : " ");
        }
    }

    private String newName() {
        return slips() ? "s0" : "s" + names.size();
    }

    private List<String> someColumns(int most) {
        List<String> all = new ArrayList<>(List.of("k", "a", "b", "c", "d", "e", "f", "g"));
        List<String> some = new ArrayList<>();
        some.add("k");
        int n = 1 + random.nextInt(most);
        while (some.size() < n) {
            String c = all.get(random.nextInt(all.size()));
            if (!some.contains(c) || slips()) {
                some.add(c);
            }
        }
        return some;
    }

    private void source() {
        List<String> some = someColumns(slips() ? 7 : 3);
        String name = newName();
        text.append("source ").append(name).append("(").append(String.join(", ", some)).append(")");
        if (random.nextBoolean()) {
            text.append(" delay ").append(slips() ? 1001 : smallOrNot(12));
        }
        names.add(name);
        columns.add(some);
    }

    private void check() {
        int s = random.nextInt(names.size());
        text.append("check ").append(slips() ? "none" : names.get(s)).append(": ");
        if (random.nextInt(3) > 0) {
            text.append(oneOf(columns.get(s))).append(List.of(" < 6", " <> 3", " % 4 <> 1", " >= 0").get(random.nextInt(4)));
        } else {
            expression(columns.get(s), 3);
        }
        text.append(" else ").append(List.of("drop", "hold", "hold", "stop").get(random.nextInt(4)));
    }

    private void step() {
        int s = random.nextInt(names.size());
        int t = random.nextInt(names.size());
        List<String> from = columns.get(s);
        List<String> made = new ArrayList<>(from);
        String name = newName();
        text.append("step ").append(name).append(" = ");
        switch (random.nextInt(8)) {
            case 0:
                text.append("keep ").append(names.get(s)).append(" where ");
                expression(from, 3);
                break;
            case 1:
                make(s, made);
                break;
            case 2:
                made = new ArrayList<>();
                for (String c : from) {
                    if (random.nextInt(3) > 0) {
                        made.add(random.nextInt(made.size() + 1), c);
                    }
                }
                if (made.isEmpty()) {
                    made.add(oneOf(from));
                }
                text.append("pick ").append(names.get(s)).append(" (").append(String.join(",", made)).append(")");
                break;
            case 3:
                while (!columns.get(t).equals(from) && !slips()) {
                    t = random.nextInt(names.size());
                }
                text.append("merge ").append(names.get(s)).append(", ").append(names.get(t));
                break;
            case 4:
                join(s, made);
                break;
            case 5:
                text.append("first ").append(names.get(s)).append(" by ").append(oneOf(from)).append(" within ")
                        .append(slips() ? 1001 : random.nextInt(8));
                break;
            default:
                made = window(s);
                break;
        }
        names.add(name);
        columns.add(made);
    }

    private void make(int s, List<String> made) {
        text.append("make ").append(names.get(s)).append(" with ");
        int n = 1 + random.nextInt(2);
        for (int i = 0; i < n && (made.size() < 6 || i == 0); i++) {
            String column = "m" + (slips() ? 0 : names.size()) + i;
            text.append(i > 0 ? ", " : "").append(column).append(" = ");
            expression(columns.get(s), 3);
            made.add(column);
        }
    }

    private void join(int s, List<String> made) {
        List<String> from = columns.get(s);
        int t = random.nextInt(names.size());
        String k = oneOf(from);
        for (int tries = 0; tries < 20; tries++) {
            List<String> shared = new ArrayList<>(columns.get(t));
            shared.retainAll(from);
            if (shared.size() == 1 && (from.size() + columns.get(t).size() < 8 || slips())) {
                k = shared.get(0);
                break;
            }
            t = random.nextInt(names.size());
        }
        text.append("join ").append(names.get(s)).append(", ").append(names.get(t)).append(" on ").append(k)
                .append(" within ").append(slips() ? 5000 : random.nextInt(10));
        for (String c : columns.get(t)) {
            if (!c.equals(k)) {
                made.add(c);
            }
        }
    }

    private List<String> window(int s) {
        List<String> made = new ArrayList<>();
        String k = oneOf(columns.get(s));
        made.add(k);
        made.add("begin");
        text.append("window ").append(names.get(s)).append(" by ").append(k).append(" every ")
                .append(slips() ? random.nextInt(2) * 1001 : 1 + smallOrNot(9));
        if (random.nextBoolean()) {
            text.append(" late ").append(smallOrNot(12));
        }
        int n = 1 + random.nextInt(slips() ? 5 : 3);
        for (int i = 0; i < n; i++) {
            String total = slips() ? List.of("begin", k, "t0").get(random.nextInt(3)) : "t" + i;
            made.add(total);
            String what = List.of("count", "sum ", "least ", "most ", "last ").get(random.nextInt(5));
            text.append(i == 0 ? " (" : ", ").append(total).append(" = ").append(what);
            if (!what.equals("count")) {
                expression(columns.get(s), 2);
            }
        }
        text.append(")");
        return made;
    }

    private void expression(List<String> from, int deep) {
        int what = random.nextInt(deep <= 0 ? 3 : 13);
        if (what < 4) {
            text.append(what == 0 ? random.nextInt(8) + "" : what == 1 ? "time" : oneOf(from));
        } else if (what < 9) {
            List<String> signs = List.of(" + ", " - ", "*", " / ", "%", " = ", " <> ", " < ", " >= ", " and ", " or ", ">", "<=");
            boolean brackets = random.nextInt(3) > 0;
            text.append(brackets ? "(" : "");
            expression(from, deep - 1);
            text.append(signs.get(random.nextInt(signs.size())));
            expression(from, deep - 1);
            text.append(brackets ? ")" : "");
        } else if (what == 9) {
            text.append(random.nextBoolean() ? "-" : "not ");
            expression(from, deep - 1);
        } else if (what == 10) {
            text.append("abs(");
            expression(from, deep - 1);
            text.append(slips() ? ", 1)" : ")");
        } else {
            text.append(random.nextBoolean() ? "least(" : "most (");
            expression(from, deep - 1);
            text.append(slips() ? "" : ", 3").append(")");
        }
    }
}
