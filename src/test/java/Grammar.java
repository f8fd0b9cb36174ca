import java.math.BigInteger;
import java.util.ArrayList;
import java.util.List;

/** The three sorts of TEXT, read by descent; a FAULT is thrown. */
final class Grammar {
    /** Where no TEXT can go on. */
    private static final class Stop extends RuntimeException {
        private static final long serialVersionUID = 1L;
        final int where;

        Stop(int where) {
            this.where = where;
        }
    }

    static final class HillText {
        int[] sun = {6, 12};
        List<int[]> parishes = new ArrayList<>();
        List<int[]> desks = new ArrayList<>();
        List<int[]> papers = new ArrayList<>();
    }

    interface Value {
        BigInteger of(int[] letters);
    }

    static final class RuleText {
        final List<Value> conditions = new ArrayList<>();
        final List<Value> sums = new ArrayList<>();

        int worth(int[] letters) {
            for (int i = 0; i < sums.size(); i++) {
                if (conditions.get(i) == null || conditions.get(i).of(letters).signum() != 0) {
                    return sums.get(i).of(letters).intValueExact();
                }
            }
            return 0;
        }
    }

    private final String text;
    private int i;

    private Grammar(String text) {
        this.text = text;
    }

    static int fault(int sort, String text) {
        try {
            if (sort == 0) {
                hill(text);
            } else if (sort == 1) {
                rule(text);
            } else {
                orders(text);
            }
            return -1;
        } catch (Stop s) {
            return s.where;
        }
    }

    private char peek() {
        while (i < text.length() && text.charAt(i) == ' ') {
            i++;
        }
        return i < text.length() ? text.charAt(i) : 0;
    }

    private char any(String signs) {
        char c = peek();
        if (c == 0 || signs.indexOf(c) < 0) {
            throw new Stop(i);
        }
        i++;
        return c;
    }

    private boolean sees(String signs) {
        char c = peek();
        return c != 0 && signs.indexOf(c) >= 0;
    }

    private int number(int digits) {
        any("0123456789");
        int from = i - 1;
        while (i < text.length() && "0123456789".indexOf(text.charAt(i)) >= 0) {
            if (i - from == digits) {
                throw new Stop(i);
            }
            i++;
        }
        return Integer.parseInt(text.substring(from, i));
    }

    static HillText hill(String text) {
        return new Grammar(text).readHill();
    }

    private HillText readHill() {
        HillText h = new HillText();
        boolean sun = false;
        do {
            if (i > 0) {
                any(";");
            }
            String open = (sun ? "" : "s") + (h.parishes.size() < 6 ? "p" : "") + (h.desks.size() < 4 ? "d" : "")
                + (h.papers.size() < 8 ? "r" : "");
            switch (any(open)) {
                case 's':
                    sun = true;
                    h.sun = items("al", new int[] {6, 12}, new int[][] {{0, 23}, {0, 24}});
                    break;
                case 'p':
                    h.parishes.add(items("fnz", new int[] {0, 6, 5}, new int[][] {{0, 7}, {1, 24}, {0, 9}}));
                    break;
                case 'd':
                    h.desks.add(items("octe", new int[] {0, 24, 1, 1}, new int[][] {{0, 23}, {1, 24}, {1, 9}, {0, 9}}));
                    break;
                default:
                    h.papers.add(items("dnm", new int[] {0, 8, 8}, new int[][] {{0, 3}, {0, 8}, {0, 8}}));
            }
        } while (sees(";"));
        peek();
        if (i < text.length()) {
            throw new Stop(i);
        }
        boolean good = !h.parishes.isEmpty() && !h.desks.isEmpty() && !h.papers.isEmpty();
        for (int[] d : h.desks) {
            good &= d[0] < d[1];
        }
        for (int[] p : h.parishes) {
            good &= p[0] < h.papers.size();
        }
        for (int[] r : h.papers) {
            good &= r[0] < h.desks.size() && (r[1] == 8 || r[1] < h.papers.size()) && (r[2] == 8 || r[2] < h.papers.size());
        }
        if (!good) {
            throw new Stop(text.length());
        }
        return h;
    }

    private int[] items(String letters, int[] values, int[][] bounds) {
        String left = letters;
        while (sees(left)) {
            char c = any(left);
            left = left.replace("" + c, "");
            int k = letters.indexOf(c);
            values[k] = number(2);
            if (values[k] < bounds[k][0] || values[k] > bounds[k][1]) {
                throw new Stop(i - 1);
            }
        }
        return values;
    }

    static List<int[]> orders(String text) {
        Grammar g = new Grammar(text);
        List<int[]> steps = new ArrayList<>();
        do {
            if (!steps.isEmpty()) {
                if (steps.size() == 16) {
                    throw new Stop(g.i);
                }
                g.any(";");
            }
            char c = g.any("fwh");
            int p = c == 'h' ? -1 : g.any("0123456789") - '0';
            int r = c == 'f' ? g.any("0123456789") - '0' : -1;
            steps.add(new int[] {"fwh".indexOf(c), p, r});
        } while (g.sees(";"));
        g.peek();
        if (g.i < text.length()) {
            throw new Stop(g.i);
        }
        return steps;
    }

    static RuleText rule(String text) {
        Grammar g = new Grammar(text);
        RuleText rule = new RuleText();
        do {
            if (!rule.sums.isEmpty()) {
                g.any(";");
            }
            g.any("y");
            g.any(":");
            Value condition = null;
            Value sum = null;
            if (g.sees("!(")) {
                condition = g.condition(0, null);
            } else {
                sum = g.sum(0);
                if (g.sees("=<>")) {
                    condition = g.condition(0, sum);
                }
            }
            if (condition != null) {
                g.any("?");
                sum = g.sum(0);
            }
            rule.conditions.add(condition);
            rule.sums.add(sum);
        } while (g.sees(";"));
        g.peek();
        if (g.i < text.length()) {
            throw new Stop(g.i);
        }
        return rule;
    }

    private static Value truth(boolean v) {
        return letters -> v ? BigInteger.ONE : BigInteger.ZERO;
    }

    private Value condition(int depth, Value begun) {
        Value left = truths(depth, begun);
        while (sees("|")) {
            i++;
            Value a = left;
            Value b = truths(depth, null);
            left = letters -> truth(a.of(letters).signum() != 0 || b.of(letters).signum() != 0).of(letters);
        }
        return left;
    }

    private Value truths(int depth, Value begun) {
        Value left = unit(depth, begun);
        while (sees("&")) {
            i++;
            Value a = left;
            Value b = unit(depth, null);
            left = letters -> truth(a.of(letters).signum() != 0 && b.of(letters).signum() != 0).of(letters);
        }
        return left;
    }

    private int deeper(int depth) {
        if (depth == 6) {
            throw new Stop(i);
        }
        i++;
        return depth + 1;
    }

    private Value unit(int depth, Value begun) {
        if (begun == null && sees("!")) {
            Value inner = unit(deeper(depth), null);
            return letters -> truth(inner.of(letters).signum() == 0).of(letters);
        }
        if (begun == null && sees("(")) {
            Value inner = condition(deeper(depth), null);
            any(")");
            return inner;
        }
        Value a = begun == null ? sum(depth) : begun;
        char sign = any("=<>");
        Value b = sum(depth);
        return letters -> {
            int c = a.of(letters).compareTo(b.of(letters));
            return truth(sign == '=' ? c == 0 : sign == '<' ? c < 0 : c > 0).of(letters);
        };
    }

    private Value sum(int depth) {
        Value left = term(depth);
        while (sees("+-")) {
            char sign = any("+-");
            Value a = left;
            Value b = term(depth);
            left = letters -> within(sign == '+' ? a.of(letters).add(b.of(letters)) : a.of(letters).subtract(b.of(letters)));
        }
        return left;
    }

    private Value term(int depth) {
        Value left = atom(depth);
        while (sees("*/")) {
            char sign = any("*/");
            Value a = left;
            Value b = atom(depth);
            left = letters -> {
                BigInteger y = b.of(letters);
                if (sign == '*') {
                    return within(a.of(letters).multiply(y));
                }
                return y.signum() == 0 ? y : within(a.of(letters).divide(y));
            };
        }
        return left;
    }

    private static BigInteger within(BigInteger v) {
        BigInteger bound = BigInteger.valueOf(1000000);
        return v.max(bound.negate()).min(bound);
    }

    private Value atom(int depth) {
        if (sees("[")) {
            Value inner = sum(deeper(depth));
            any("]");
            return inner;
        }
        if (sees("hdwkpnz")) {
            int k = "hdwkpnz".indexOf(any("hdwkpnz"));
            return letters -> BigInteger.valueOf(letters[k]);
        }
        int v = number(4);
        return letters -> BigInteger.valueOf(v);
    }
}
