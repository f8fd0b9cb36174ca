import java.util.NoSuchElementException;

/** The edges of what a HILL's TEXT may be, sentence by sentence of the Terms. */
public final class HillEdgeTest {
    private static final Due DUE = new Due("hill's edges");
    /** CLAUSES behind the one that is asked about, so that the HILL has as many DESKS and PAPERS as may be. */
    private static final String[] KINDS = {"s", "p", "d", "r"};
    private static final String[] RESTS = {";p;d;d;d;d;r;r;r;r;r;r;r;r", ";d;d;d;d;r;r;r;r;r;r;r;r", ";p;d;d;d;r;r;r;r;r;r;r;r",
        ";p;d;d;d;d;r;r;r;r;r;r;r"};
    /** The letters of each kind, in the order in which they are asked for. */
    private static final String[] LETTERS = {"al", "fnz", "octe", "dnm"};

    public static void main(String[] args) {
        item("a DAWN (0 .. 23; 6 without)", 's', 'a', 0, 23, 6);
        item("l LIGHT (0 .. 24; 12)", 's', 'l', 0, 24, 12);
        item("f its FORM, a PAPER (0 .. 7; 0)", 'p', 'f', 0, 7, 0);
        item("n hours it NEEDS (1 .. 24; 6)", 'p', 'n', 1, 24, 6);
        item("z ZEAL (0 .. 9; 5)", 'p', 'z', 0, 9, 5);
        item("o when it OPENS (0 .. 23; 0)", 'd', 'o', 0, 23, 0);
        item("c when it CLOSES (1 .. 24; 24)", 'd', 'c', 1, 24, 24);
        item("t hours it TAKES (1 .. 9; 1)", 'd', 't', 1, 9, 1);
        item("e FEE (0 .. 9; 1)", 'd', 'e', 0, 9, 1);
        item("d its DESK (0 .. 3; 0)", 'r', 'd', 0, 3, 0);
        item("n, m two PAPERS that it WANTS (0 .. 8; 8: none; 8)", 'r', 'n', 0, 8, -1);
        item("n, m two PAPERS that it WANTS (0 .. 8; 8: none; 8)", 'r', 'm', 0, 8, -1);
        clausesThatMayBe();
        aClauseTooMany();
        anyOrder();
        eachLetterOnce();
        itemsInAnyOrder();
        noItemsOrAll();
        oneOrTwoDigits();
        aThirdDigit();
        wrongAtItsLastDigit();
        blanks();
        noBlanksWithin();
        endsTooEarly();
        withoutAny();
        opensAheadOfClosing();
        whatIsNotTold();
        eachMustBeTold();
        theFirstByte();
        textsOneBehindTheOther();
        DUE.close();
    }

    private static void fault(String text, int want) {
        DUE.is("FAULT of \"" + text + "\"", Due.fault(new SunDesk(), 0, text), want);
    }

    private static void right(String text) {
        fault(text, -1);
    }

    private static int kind(char clause) {
        return "spdr".indexOf(clause);
    }

    /** What the first CLAUSE of a kind has for one of its letters. */
    private static int told(SunDesk x, int kind, int letter) {
        try {
            return kind == 0 ? x.sun(letter) : kind == 1 ? x.parish(0, letter) : kind == 2 ? x.desk(0, letter) : x.paper(0, letter);
        } catch (NoSuchElementException e) {
            return Integer.MIN_VALUE;
        }
    }

    /** Each number of one or two digits for an ITEM: within its bounds it is told so, beyond them its last digit is the FAULT. */
    private static void item(String words, char clause, char letter, int low, int high, int without) {
        DUE.says("Terms", words);
        int kind = kind(clause);
        int what = LETTERS[kind].indexOf(letter);
        SunDesk untold = Due.hill(clause + RESTS[kind]);
        DUE.is(clause + " without " + letter, told(untold, kind, what), without);
        DUE.is("without s", kind > 0 || told(Due.hill(RESTS[0].substring(1)), 0, what) == without, true);
        for (int v = 0; v < 100; v++) {
            for (String number : v < 10 ? new String[] {"" + v, "0" + v} : new String[] {"" + v}) {
                String begun = clause + "" + letter + number;
                if (v < low || v > high) {
                    fault(begun + RESTS[kind], 1 + number.length());
                    fault(begun, 1 + number.length());
                    fault(RESTS[kind].substring(1) + ";" + begun, RESTS[kind].length() + 1 + number.length());
                } else {
                    right(begun + RESTS[kind]);
                    SunDesk x = Due.hill(begun + RESTS[kind]);
                    int want = kind == 3 && what > 0 && v == 8 ? -1 : v;
                    DUE.is(begun + RESTS[kind], told(x, kind, what), want);
                    for (int other = 0; other < LETTERS[kind].length(); other++) {
                        DUE.is("the others of " + begun, other == what || told(x, kind, other) == told(untold, kind, other), true);
                    }
                }
            }
        }
    }

    private static String hill(int suns, int parishes, int desks, int papers) {
        String all = ";s".repeat(suns) + ";p".repeat(parishes) + ";d".repeat(desks) + ";r".repeat(papers);
        return all.substring(1);
    }

    private static void clausesThatMayBe() {
        DUE.says("Terms", "s (the SUN; one at most), p (a PARISH; 1 .. 6), d (a DESK; 1 .. 4), r (a PAPER; 1 .. 8)");
        for (int s = 0; s <= 1; s++) {
            for (int p = 1; p <= 6; p++) {
                for (int d = 1; d <= 4; d++) {
                    for (int r = 1; r <= 8; r++) {
                        SunDesk x = new SunDesk();
                        String text = hill(s, p, d, r);
                        DUE.is("PARISHES of " + text, Due.text(x, 0, text), p);
                        DUE.is("PARISHES of " + text, x.count(0), p);
                        DUE.is("DESKS of " + text, x.count(1), d);
                        DUE.is("PAPERS of " + text, x.count(2), r);
                    }
                }
            }
        }
    }

    private static void aClauseTooMany() {
        DUE.says("Terms", "a second s, a seventh p, a fifth d, a ninth r");
        fault("s;s;p;d;r", 2);
        fault("p;d;r;s;p;s", 10);
        fault("s a1 ; s a2;p;d;r", 7);
        fault("p;p;p;p;p;p;d;r;p", 16);
        fault("p;p;p;p;p;p;p", 12);
        fault("pn1;pn1;pn1;pn1;pn1;pn1;pn1;d;r", 24);
        fault("d;d;d;d;p;r;d", 12);
        fault("d;d;d;d;d", 8);
        fault("r;r;r;r;r;r;r;r;p;d;r", 20);
        fault("r;r;r;r;r;r;r;r;r", 16);
        fault(hill(1, 6, 4, 8) + ";s", 38);
        fault(hill(1, 6, 4, 8) + ";p", 38);
        fault(hill(1, 6, 4, 8) + ";d", 38);
        fault(hill(1, 6, 4, 8) + ";r", 38);
        right(hill(1, 6, 4, 8));
        fault("p;p;p;p;p;p; p", 13);
    }

    private static void anyOrder() {
        DUE.says("Terms", "in any order");
        String[] clauses = {"sa1l2", "pn3", "dt4", "rm8"};
        for (int code = 0; code < 256; code++) {
            int[] order = {code & 3, code >> 2 & 3, code >> 4 & 3, code >> 6};
            if ((1 << order[0] | 1 << order[1] | 1 << order[2] | 1 << order[3]) == 15) {
                String text = clauses[order[0]] + ";" + clauses[order[1]] + ";" + clauses[order[2]] + ";" + clauses[order[3]];
                SunDesk x = Due.hill(text);
                DUE.is("LIGHT of " + text, x.sun(1), 2);
                DUE.is("NEEDS of " + text, x.parish(0, 1), 3);
                DUE.is("TAKES of " + text, x.desk(0, 2), 4);
            }
        }
        SunDesk x = Due.hill("r;pn1;dt1;rd1;pn2;dt2;s;pn3");
        for (int i = 0; i < 3; i++) {
            DUE.is("PARISH " + i + " by its place", x.parish(i, 1), i + 1);
        }
        DUE.is("DESK 1 by its place", x.desk(1, 2), 2);
        DUE.is("PAPER 1 by its place", x.paper(1, 0), 1);
    }

    private static void eachLetterOnce() {
        DUE.says("Terms", "a letter, each once at most in a CLAUSE");
        DUE.says("Terms", "a letter that was there");
        for (int kind = 0; kind < 4; kind++) {
            String all = LETTERS[kind];
            for (int k = 0; k < all.length(); k++) {
                char letter = all.charAt(k);
                String once = KINDS[kind] + letter + "1";
                right(once + RESTS[kind]);
                fault(once + letter + "1" + RESTS[kind], 3);
                fault(once + " " + letter + "1" + RESTS[kind], 4);
                fault(once + letter, 3);
                StringBuilder others = new StringBuilder(letter == 'c' ? "dc2" : once);
                for (int o = 0; o < all.length(); o++) {
                    // A DESK has to OPEN ahead of when it CLOSES.
                    others.append(o == k ? "" : all.charAt(o) + (all.charAt(o) == 'c' ? "2" : "1"));
                }
                right(others + RESTS[kind]);
                fault(others.toString() + letter + "1" + RESTS[kind], others.length());
                if (kind > 0) {
                    String oneLess = RESTS[kind].replaceFirst(";" + KINDS[kind], "");
                    right(once + ";" + once + oneLess);
                }
            }
        }
    }

    private static void itemsInAnyOrder() {
        String[][] orders = {{"pf1n2z3", "pf1z3n2", "pn2f1z3", "pn2z3f1", "pz3f1n2", "pz3n2f1"}, {"sa1l2", "sl2a1"},
            {"rd1n2m3", "rd1m3n2", "rn2d1m3", "rn2m3d1", "rm3d1n2", "rm3n2d1"},
            {"do1c5t3e4", "de4t3c5o1", "dc5o1e4t3", "dt3e4o1c5", "dc5e4o1t3", "do1t3c5e4"}};
        int[][] want = {{1, 2, 3}, {1, 2}, {1, 2, 3}, {1, 5, 3, 4}};
        for (int i = 0; i < orders.length; i++) {
            int kind = kind(orders[i][0].charAt(0));
            for (String clause : orders[i]) {
                SunDesk x = Due.hill(clause + RESTS[kind]);
                for (int what = 0; what < want[i].length; what++) {
                    DUE.is(clause + " " + what, told(x, kind, what), want[i][what]);
                }
            }
        }
    }

    private static void noItemsOrAll() {
        DUE.says("Terms", "then ITEMS, none or more");
        right("s;p;d;r");
        right("sa0l24;pf0n24z9;do0c24t9e9;rd0n8m8");
        for (int kind = 0; kind < 4; kind++) {
            for (int b = 1; b < 256; b++) {
                char c = (char) b;
                boolean item = LETTERS[kind].indexOf(c) >= 0;
                fault(KINDS[kind] + c + "1" + RESTS[kind], item ? -1 : c == ' ' || c == ';' ? 2 : 1);
                fault(KINDS[kind] + c, item || c == ' ' || c == ';' ? 2 : 1);
            }
        }
    }

    private static void oneOrTwoDigits() {
        DUE.says("Terms", "a number (one or two digits)");
        for (int kind = 0; kind < 4; kind++) {
            for (int k = 0; k < LETTERS[kind].length(); k++) {
                String begun = KINDS[kind] + LETTERS[kind].charAt(k);
                right(begun + "1" + RESTS[kind]);
                right(begun + "01" + RESTS[kind]);
                right(begun + " 1" + RESTS[kind]);
                fault(begun + RESTS[kind], 2);
                fault(begun, 2);
                fault(begun + "  ", 4);
                fault(begun + "  " + RESTS[kind], 4);
                fault(begun + "-1" + RESTS[kind], 2);
                fault(begun + "+1" + RESTS[kind], 2);
                fault(begun + "x" + RESTS[kind], 2);
            }
        }
    }

    private static void aThirdDigit() {
        DUE.says("Terms", "a third digit (a fifth one in a RULE) itself, whatever stands ahead of it");
        for (int kind = 0; kind < 4; kind++) {
            for (int k = 0; k < LETTERS[kind].length(); k++) {
                for (int v = 0; v < 1000; v += v < 300 ? 1 : 37) {
                    String begun = KINDS[kind] + LETTERS[kind].charAt(k) + (v < 10 ? "00" : v < 100 ? "0" : "") + v;
                    fault(begun + RESTS[kind], 4);
                    fault(begun, 4);
                    fault(begun + "9", 4);
                }
            }
        }
    }

    private static void wrongAtItsLastDigit() {
        DUE.says("Terms", "a number out of bounds is wrong at its last digit");
        fault("pn0", 2);
        fault("pn00", 3);
        fault("pn0;x", 2);
        fault("pn25 n1", 3);
        fault("p n 0 0", 4);
        fault("p n 00", 5);
        fault("pz9n24f8", 7);
        fault("pz9n24f08", 8);
        fault("dt0t", 2);
        fault("sl25a24", 3);
        fault("sa24l25", 3);
    }

    private static void blanks() {
        DUE.says("Terms", "Blanks (32) may stand between all signs of these, not within numbers");
        String text = "sa23l04;pf1n12z9;pz0;do10c20t3e4;d;rd1n1m1;rm8";
        StringBuilder wide = new StringBuilder("  ");
        for (int i = 0; i < text.length(); i++) {
            boolean within = i > 0 && Character.isDigit(text.charAt(i)) && Character.isDigit(text.charAt(i - 1));
            wide.append(within ? "" : "   ").append(text.charAt(i));
            if (!within) {
                right(text.substring(0, i) + " " + text.substring(i));
                right(text.substring(0, i) + "      " + text.substring(i));
            } else {
                fault(text.substring(0, i) + " " + text.substring(i), i + 1);
                fault(text.substring(0, i) + "  " + text.substring(i), i + 2);
            }
        }
        wide.append("    ");
        SunDesk narrow = Due.hill(text);
        SunDesk same = Due.hill(wide.toString());
        for (int what = 0; what < 9; what++) {
            DUE.is("SUN with blanks", same.sun(what), narrow.sun(what));
            DUE.is("DESK with blanks", same.desk(0, what), narrow.desk(0, what));
            DUE.is("PAPER with blanks", same.paper(0, what), narrow.paper(0, what));
            DUE.is("PARISH with blanks", same.parish(0, what), narrow.parish(0, what));
        }
    }

    private static void noBlanksWithin() {
        String text = "sa2;pn5;d;r";
        for (int i = 0; i <= text.length(); i++) {
            for (char c : new char[] {1, 9, 10, 11, 13, 31, 33, 127, 128, 160, 255}) {
                fault(text.substring(0, i) + c + text.substring(i), i);
            }
        }
    }

    private static void endsTooEarly() {
        DUE.says("Terms", "FAULT: the first byte at which no such TEXT can go on (the length, if it ends too early");
        String text = "sa1l2;pf0n12z3;do1c2t3e4;rd0n8m8";
        int lastClause = text.lastIndexOf('r');
        for (int n = 0; n <= text.length(); n++) {
            String begun = text.substring(0, n);
            boolean whole = n > lastClause && "dnm".indexOf(text.charAt(n - 1)) < 0;
            fault(begun, whole ? -1 : n);
            fault(begun + "   ", whole ? -1 : n + 3);
        }
        fault("", 0);
        fault(" ", 1);
        fault(" ".repeat(240), 240);
        fault("p;d;r;", 6);
        fault("p;d;r; ", 7);
    }

    private static void withoutAny() {
        DUE.says("Terms", "without a PARISH, a DESK or a PAPER");
        for (int p = 0; p < 2; p++) {
            for (int d = 0; d < 2; d++) {
                for (int r = 0; r < 2; r++) {
                    for (int s = 0; s < 2; s++) {
                        if (s + p + d + r > 0) {
                            String text = hill(s, p, d, r);
                            fault(text, p + d + r == 3 ? -1 : text.length());
                        }
                    }
                }
            }
        }
        fault("p;p;p;p;p;p;d;d;d;d", 19);
        fault("p;p;p;p;p;p;r", 13);
        fault("d;d;d;d;r", 9);
    }

    private static void opensAheadOfClosing() {
        DUE.says("Terms", "with a DESK that does not OPEN ahead of when it CLOSES");
        for (int o = 0; o <= 23; o++) {
            for (int c = 1; c <= 24; c++) {
                String text = "do" + o + "c" + c + ";p;r";
                fault(text, o < c ? -1 : text.length());
            }
            right("p;r;do" + o);
        }
        for (int i = 0; i < 4; i++) {
            String text = "p;r" + ";d".repeat(i) + ";do9c9" + ";d".repeat(3 - i) + " ";
            fault(text, text.length());
            right(text.replace("c9", "c10"));
            fault(text + ";x", text.length() + 1);
        }
    }

    private static void whatIsNotTold() {
        DUE.says("Terms", "or with a FORM, a DESK, a PAPER that is not told)");
        for (int many = 1; many <= 8; many++) {
            for (int v = 0; v <= 8; v++) {
                String papers = ";r".repeat(many - 1);
                String form = "p;d;pf" + v + ";r" + papers;
                fault(form, v == 8 ? 6 : v < many ? -1 : form.length());
                String n = "p;d;rn" + v + papers;
                fault(n, v < many || v == 8 ? -1 : n.length());
                String m = "rm" + v + papers + ";p;d  ";
                fault(m, v < many || v == 8 ? -1 : m.length());
                String last = "p;d" + papers + ";rn0m" + v;
                fault(last, v < many || v == 8 ? -1 : last.length());
            }
        }
        for (int many = 1; many <= 4; many++) {
            for (int v = 0; v < 4; v++) {
                String desk = "p;rd" + v + ";d".repeat(many);
                fault(desk, v < many ? -1 : desk.length());
                String second = "p;r;d" + ";d".repeat(many - 1) + ";rd" + v;
                fault(second, v < many ? -1 : second.length());
            }
        }
        fault("pf1;d;r;x", 8);
        fault("p;d;rn1;r", -1);
        fault("pf1;d;r;r", -1);
    }

    /** Each PARISH has to have a FORM that is told, each PAPER a DESK and PAPERS, wherever it stands. */
    private static void eachMustBeTold() {
        for (int i = 0; i < 6; i++) {
            String text = "p;".repeat(i) + "pf3;" + "p;".repeat(5 - i) + "d;r;r;r";
            fault(text, text.length());
            right(text + ";r");
        }
        for (int i = 0; i < 8; i++) {
            String before = "p;d;d" + ";r".repeat(i);
            String behind = ";r".repeat(7 - i);
            fault(before + ";rd2" + behind, before.length() + 4 + behind.length());
            right(before + ";rd1" + behind);
            right(before + ";rn7" + behind);
            right(before + ";rm7" + behind);
            if (i < 7) {
                String less = behind.substring(2);
                fault(before + ";rn7" + less, before.length() + 4 + less.length());
                fault(before + ";rm7" + less, before.length() + 4 + less.length());
                right(before + ";rn6m6" + less);
            }
        }
    }

    /** What was read ahead of it, right or not, leaves nothing behind. */
    private static void textsOneBehindTheOther() {
        String[] texts = {"sa1l2;pf1n2z3;p;do1c2t3e4;rn0m0;r", "p;d;r", "p;p;p;p;p;p;p", "s;s", "pf7n24z9", "d;d;d;d;d", "pn1;dt2;rn0;r;r;r;r;r;r;r;r", "x", ""};
        for (String first : texts) {
            for (String second : texts) {
                SunDesk x = new SunDesk();
                Due.fault(x, 0, first);
                DUE.is("FAULT of " + second + " behind " + first, Due.fault(x, 0, second), Due.fault(new SunDesk(), 0, second));
            }
        }
        SunDesk x = Due.hill(texts[0]);
        for (String text : texts) {
            Due.fault(x, 0, text);
            DUE.is("the HILL is as it was told behind FAULT of " + text, x.sun(1), 2);
            DUE.is("its PARISH", x.parish(0, 2), 3);
            DUE.is("its DESK", x.desk(0, 3), 4);
            DUE.is("its PAPER", x.paper(0, 2), 0);
            DUE.is("PARISHES", x.count(0), 2);
            DUE.is("DESKS", x.count(1), 1);
            DUE.is("PAPERS", x.count(2), 2);
            DUE.is("NEEDED", x.needed(0), 1);
        }
        Due.text(x, 0, "p;d;r");
        int[] untold = {0, 6, 5};
        for (int what = 0; what < 3; what++) {
            DUE.is("without its ITEMS it is not as the one ahead", x.parish(0, what), untold[what]);
        }
        DUE.is("nor is the SUN", x.sun(0), 6);
        DUE.is("nor is the DESK", x.desk(0, 2), 1);
        DUE.is("nor is the PAPER", x.paper(0, 1), -1);
    }

    /** Each byte behind each beginning of a right TEXT. */
    private static void theFirstByte() {
        String text = " sl0;pz 3n24;d c09;rm0d0 ";
        for (int n = 0; n <= text.length(); n++) {
            for (int b = 1; b < 256; b++) {
                String begun = text.substring(0, n) + (char) b;
                fault(begun, Grammar.fault(0, begun));
                fault(begun + "#", Grammar.fault(0, begun + "#"));
            }
        }
    }
}
