import java.util.Random;

/** Texts by chance: right ones, and ones that are nearly right. */
final class Texts {
    private static final String SIGNS = "spdr;falnzotceym:?!()[]|&=<>+-*/hwk0123456789   x#.\u00e9\u0001";

    private final Random chance;

    Texts(long seed) {
        chance = new Random(seed);
    }

    private int upTo(int n) {
        return chance.nextInt(n + 1);
    }

    private boolean one(int in) {
        return chance.nextInt(in) == 0;
    }

    String any(int sort) {
        return sort == 0 ? hill() : sort == 1 ? rule() : orders();
    }

    /** A HILL that has no FAULT. */
    String hill() {
        int parishes = 1 + upTo(5);
        int desks = 1 + upTo(3);
        int papers = 1 + upTo(one(3) ? 7 : 4);
        StringBuilder order = new StringBuilder();
        order.append("p".repeat(parishes)).append("d".repeat(desks)).append("r".repeat(papers)).append(one(4) ? "" : "s");
        boolean rings = one(4);
        boolean close = one(2);
        StringBuilder text = new StringBuilder();
        int told = 0;
        while (order.length() > 0) {
            int k = one(3) ? upTo(order.length() - 1) : 0;
            char kind = order.charAt(k);
            order.deleteCharAt(k);
            text.append(told++ > 0 ? ";" : "").append(kind);
            if (kind == 's') {
                items(text, "a" + upTo(23), "l" + upTo(24));
            } else if (kind == 'p') {
                items(text, "f" + upTo(close ? Math.min(1, papers - 1) : papers - 1), "n" + (1 + upTo(23)), "z" + upTo(9));
            } else if (kind == 'd') {
                int o = upTo(one(2) ? 3 : 22);
                items(text, "o" + o, "c" + (o + 1 + upTo(23 - o)), "t" + (1 + upTo(one(2) ? 1 : 8)), "e" + upTo(9));
                if (text.toString().endsWith("!")) {
                    text.setLength(text.length() - 1);
                }
            } else {
                int most = rings ? papers - 1 : told % papers;
                items(text, "d" + upTo(desks - 1), "n" + (one(2) ? 8 : upTo(most)), "m" + (one(2) ? 8 : upTo(most)));
            }
        }
        return Grammar.fault(0, text.toString()) == -1 && text.length() <= 240 ? text.toString() : hill();
    }

    private void items(StringBuilder text, String... items) {
        int from = upTo(items.length - 1);
        for (int i = 0; i < items.length; i++) {
            if (!one(5)) {
                String item = items[(from + i) % items.length];
                text.append(one(9) ? " " : "").append(item.charAt(0)).append(one(9) ? " " : "");
                text.append(item.length() == 2 && one(6) ? "0" : "").append(item.substring(1)).append(one(9) ? " " : "");
            }
        }
    }

    /** A RULE that has no FAULT. */
    String rule() {
        StringBuilder text = new StringBuilder();
        int clauses = 1 + upTo(2);
        for (int i = 0; i < clauses; i++) {
            text.append(i > 0 ? ";" : "").append(one(9) ? " y : " : "y:");
            if (!one(3)) {
                condition(text, 0);
                text.append("?");
            }
            sum(text, 0);
        }
        return text.length() <= 240 && Grammar.fault(1, text.toString()) == -1 ? text.toString() : rule();
    }

    private void condition(StringBuilder text, int depth) {
        int units = 1 + upTo(one(2) ? 2 : 0);
        for (int i = 0; i < units; i++) {
            text.append(i == 0 ? "" : one(2) ? "|" : "&");
            unit(text, depth);
        }
    }

    private void unit(StringBuilder text, int depth) {
        int kind = chance.nextInt(6);
        if (kind == 0 && depth < 7) {
            text.append("!");
            unit(text, depth + 1);
        } else if (kind == 1 && depth < 7) {
            text.append("(");
            condition(text, depth + 1);
            text.append(")");
        } else {
            sum(text, depth);
            text.append("=<>".charAt(upTo(2)));
            sum(text, depth);
        }
    }

    private void sum(StringBuilder text, int depth) {
        int atoms = 1 + upTo(one(2) ? 3 : 1);
        for (int i = 0; i < atoms; i++) {
            text.append(i == 0 ? "" : "" + "+-*/".charAt(upTo(3)));
            if (one(8) && depth < 7) {
                text.append("[");
                sum(text, depth + 1);
                text.append("]");
            } else if (one(2)) {
                text.append("hdwkpnz".charAt(upTo(6)));
            } else {
                text.append(one(4) ? upTo(9999) : upTo(9));
            }
            text.append(one(20) ? " " : "");
        }
    }

    /** ORDERS that have no FAULT. */
    String orders() {
        StringBuilder text = new StringBuilder();
        int steps = 1 + upTo(15);
        for (int i = 0; i < steps; i++) {
            text.append(i > 0 ? ";" : "").append(one(9) ? " " : "");
            int kind = upTo(7);
            if (kind < 3) {
                text.append("f").append(one(9) ? " " : "").append(upTo(5)).append(one(9) ? " " : "").append(upTo(one(9) ? 9 : 3));
            } else if (kind == 3) {
                text.append("w").append(one(9) ? " " : "").append(upTo(one(9) ? 9 : 5));
            } else {
                text.append("h").append(one(9) ? " " : "");
            }
        }
        return text.toString();
    }

    /** The same with a sign or two changed, more or less. */
    String nearly(String text) {
        StringBuilder near = new StringBuilder(text);
        int changes = 1 + upTo(2);
        for (int i = 0; i < changes; i++) {
            int k = upTo(near.length());
            char c = SIGNS.charAt(upTo(SIGNS.length() - 1));
            int how = upTo(3);
            if (how == 0 && k < near.length()) {
                near.deleteCharAt(k);
            } else if (how == 1 && k < near.length()) {
                near.setCharAt(k, c);
            } else if (how == 2) {
                near.setLength(k);
            } else {
                near.insert(k, c);
            }
        }
        if (near.length() > 240) {
            near.setLength(240);
        }
        return near.toString();
    }
}
