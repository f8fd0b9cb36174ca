import java.util.Random;

/**
 * "FAULT: the first byte at which no such TEXT can go on": the three grammars as the document tells them, walked sign by sign;
 * wherever a TEXT can go on the FAULT is its length (or none), wherever it can't the next sign.
 */
public final class PrefixTest {
    private static final Due DUE = new Due("prefix");
    private static final String DIGITS = "0123456789";
    private static final String[] ITEMS = {"al", "fnz", "octe", "dnm"};
    private static final int[][] LEAST = {{0, 0}, {0, 1, 0}, {0, 1, 1, 0}, {0, 0, 0}};
    private static final int[][] MOST = {{23, 24}, {7, 24, 9}, {23, 24, 9, 9}, {3, 8, 8}};
    private static final String KINDS = "spdr";
    /** Texts that one object is asked about. */
    private static final int TEXTS = 100;

    private final Chart chart = new Chart();
    private final int sort;
    private final String signs;
    private final Random chance = new Random(11);
    private final StringBuilder text = new StringBuilder();
    private SunDesk x;
    private int asked;

    private PrefixTest(int sort, String signs) {
        this.sort = sort;
        this.signs = signs;
        digits();
        if (sort == 0) {
            hill();
        } else if (sort == 1) {
            rules();
        } else {
            orders();
        }
    }

    public static void main(String[] args) {
        DUE.says("Terms", "FAULT: the first byte at which no such TEXT can go on");
        new PrefixTest(1, "h1+*=&|!([)]?;y: ").all(6, "y:");
        new PrefixTest(1, "hdwkpnz019+-*/=<>&|!([)]?;y: x").byChance(150, 45);
        new PrefixTest(1, "h1=!([)]?+&").byChance(150, 35);
        new PrefixTest(2, "fwh1; x").all(6, "");
        new PrefixTest(2, "fwh09; ").byChance(150, 90);
        new PrefixTest(2, "h;").byChance(20, 40);
        new PrefixTest(0, "spdrfa1; ").all(5, "");
        new PrefixTest(0, "spdrfalnzotcem" + DIGITS + "; ").byChance(150, 90);
        new PrefixTest(0, "aoctenf" + DIGITS).all(3, "p;d;r;s");
        new PrefixTest(0, "octe0129").all(6, "d");
        new PrefixTest(0, "pdr;").byChance(100, 36);
        atTheBounds();
        DUE.close();
    }

    /** As many as there may be of each, or one fewer, and what stands behind these. */
    private static void atTheBounds() {
        PrefixTest hill = new PrefixTest(0, "spdr; ");
        for (String head : new String[] {"s;", "p;p;p;p;p;", "d;d;d;", "r;r;r;r;r;r;r;", "s;p;p;p;p;p;p;d;d;d;d;r;r;r;r;r;r;r;r"}) {
            hill.all(5, head);
        }
        PrefixTest rule = new PrefixTest(1, "h1=![(])?&|;");
        for (String head : new String[] {"y:!h=1&!h=1&!h=1|!h=1&!h=1&!h=1|", "y:!(!(h=1))&[[[[[[h]]]]]]=", "y:((((((h=1))))))&", "y:!!!(!!"}) {
            rule.all(4, head);
        }
    }

    private void digits() {
        chart.adjoining("D", DIGITS.split(""));
    }

    private void hill() {
        chart.adjoining("NUMBER", "D B", "D D B");
        for (int kind = 0; kind < KINDS.length(); kind++) {
            int many = ITEMS[kind].length();
            for (int used = 0; used < 1 << many; used++) {
                String rest = "ITEMS-" + kind + "-" + used;
                chart.adjoining(rest, "");
                for (int item = 0; item < many; item++) {
                    if ((used >> item & 1) == 0) {
                        chart.rule(rest, ITEMS[kind].charAt(item) + " NUMBER ITEMS-" + kind + "-" + (used | 1 << item));
                    }
                }
            }
        }
        int[] most = {1, 6, 4, 8};
        for (int n = 0; n < 2 * 7 * 5 * 9; n++) {
            int[] told = {n % 2, n / 2 % 7, n / 14 % 5, n / 70};
            for (int kind = 0; kind < KINDS.length(); kind++) {
                if (told[kind] < most[kind]) {
                    clauses(told, kind);
                }
            }
        }
        chart.rule("HILL", "B CLAUSES-0-0-0-0");
        chart.begin("HILL");
    }

    /** Behind so many CLAUSES of each kind one of this kind; a ; may follow even where none can come behind it (NOTES.md). */
    private void clauses(int[] told, int kind) {
        int[] then = told.clone();
        then[kind]++;
        String clause = KINDS.charAt(kind) + " ITEMS-" + kind + "-0";
        chart.rule(name(told), clause + " ; " + name(then));
        if (then[1] > 0 && then[2] > 0 && then[3] > 0) {
            chart.rule(name(told), clause);
        }
    }

    private static String name(int[] told) {
        return "CLAUSES-" + told[0] + "-" + told[1] + "-" + told[2] + "-" + told[3];
    }

    private void rules() {
        chart.rule("RULE", "B CLAUSES");
        chart.rule("CLAUSES", "CLAUSE", "CLAUSES ; CLAUSE");
        chart.rule("CLAUSE", "y : SUM-0", "y : CONDITION-0 ? SUM-0");
        chart.adjoining("NUMBER", "D B", "D D B", "D D D B", "D D D D B");
        chart.rule("LETTER", "hdwkpnz".split(""));
        for (int depth = 0; depth <= 6; depth++) {
            deep(depth, "CONDITION-", "TRUTH-", "CONDITION- | TRUTH-");
            deep(depth, "TRUTH-", "UNIT-", "TRUTH- & UNIT-");
            deep(depth, "UNIT-", "! UNIT+", "( CONDITION+ )", "SUM- = SUM-", "SUM- < SUM-", "SUM- > SUM-");
            deep(depth, "SUM-", "TERM-", "SUM- + TERM-", "SUM- - TERM-");
            deep(depth, "TERM-", "ATOM-", "TERM- * ATOM-", "TERM- / ATOM-");
            deep(depth, "ATOM-", "NUMBER", "LETTER", "[ SUM+ ]");
        }
        chart.begin("RULE");
    }

    /** Behind a name - is as deep, + one deeper; deeper than six there is nothing. */
    private void deep(int depth, String left, String... alternatives) {
        for (String a : alternatives) {
            if (depth < 6 || !a.matches(".*[A-Z]\\+.*")) {
                chart.rule(left + depth, a.replaceAll("([A-Z])-", "$1-" + depth).replaceAll("([A-Z])\\+", "$1-" + (depth + 1)));
            }
        }
    }

    private void orders() {
        chart.rule("STEP", "f D B D B", "w D B", "h");
        chart.rule("STEPS-1", "STEP");
        for (int n = 2; n <= 16; n++) {
            chart.rule("STEPS-" + n, "STEPS-" + (n - 1) + " ; STEP");
        }
        for (int n = 1; n <= 16; n++) {
            chart.rule("ORDERS", "B STEPS-" + n);
        }
        chart.begin("ORDERS");
    }

    private void is(String tried, int fault) {
        if (asked++ % TEXTS == 0) {
            x = new SunDesk();
        }
        DUE.is("fault(" + sort + ") of \"" + tried + "\"", Due.fault(x, sort, tried), fault);
    }

    /** The text so far, and with each sign behind it. */
    private void here() {
        int bad = sort == 0 ? lastDigitOutOfBounds() : -1;
        if (bad >= 0) {
            is(text.toString(), bad);
        } else if (!chart.isWhole()) {
            is(text.toString(), text.length());
        } else if (sort > 0) {
            is(text.toString(), -1);
        }
        for (char sign : signs.toCharArray()) {
            boolean goesOn = chart.take(sign);
            if (goesOn) {
                chart.takeBack();
            }
            if (bad >= 0 && DIGITS.indexOf(sign) < 0) {
                is(text.toString() + sign, bad);
            } else if (!goesOn) {
                is(text.toString() + sign, text.length());
            }
        }
    }

    /** Whether the chart takes it and it leaves no number out of bounds behind. */
    private boolean goOn(char sign) {
        boolean digit = DIGITS.indexOf(sign) >= 0;
        if (sort == 0 && !digit && lastDigitOutOfBounds() >= 0 || !chart.take(sign)) {
            return false;
        }
        text.append(sign);
        return true;
    }

    private void goBack() {
        chart.takeBack();
        text.setLength(text.length() - 1);
    }

    /** Where the number with which the HILL's text ends has its last digit, if it is out of bounds; else -1. */
    private int lastDigitOutOfBounds() {
        int from = text.length();
        while (from > 0 && DIGITS.indexOf(text.charAt(from - 1)) >= 0) {
            from--;
        }
        if (from == text.length()) {
            return -1;
        }
        int value = Integer.parseInt(text.substring(from));
        String ahead = text.substring(0, from).replace(" ", "");
        int kind = KINDS.indexOf(ahead.charAt(ahead.lastIndexOf(';') + 1));
        int item = ITEMS[kind].indexOf(ahead.charAt(ahead.length() - 1));
        return value < LEAST[kind][item] || value > MOST[kind][item] ? text.length() - 1 : -1;
    }

    private void first(String head) {
        while (text.length() > 0) {
            goBack();
        }
        for (char sign : head.toCharArray()) {
            DUE.is(head + " begins a text", goOn(sign), true);
        }
    }

    /** All texts of so many signs behind these. */
    private void all(int more, String head) {
        first(head);
        walk(more);
    }

    private void walk(int more) {
        here();
        for (int i = 0; i < signs.length() && more > 0; i++) {
            if (goOn(signs.charAt(i))) {
                walk(more - 1);
                goBack();
            }
        }
    }

    private void byChance(int walks, int most) {
        for (int n = 0; n < walks; n++) {
            first("");
            for (int tries = 0; tries < 40 * most && text.length() < most; tries++) {
                if (goOn(signs.charAt(chance.nextInt(signs.length())))) {
                    here();
                }
            }
        }
    }
}
