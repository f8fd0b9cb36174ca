import java.util.ArrayList;
import java.util.List;

/** The edges of what a RULE's TEXT may be and of what it is worth, sentence by sentence of the Terms. */
public final class RuleEdgeTest {
    private static final Due DUE = new Due("rule's edges");
    private static final int DEEP = 6;

    public static void main(String[] args) {
        fourRules();
        oneClauseAtLeast();
        signsOfAClause();
        oneToFourDigits();
        letters();
        behindAnAtom();
        goesOnWithACondition();
        sixWithinOneAnother();
        notWithinOneAnother();
        blanks();
        endsTooEarly();
        theFirstByte();
        numbersAreWithin();
        cutsTowardsZero();
        firstClauseThatHolds();
        aboveZero();
        howSignsBind();
        asLongAsTheTape();
        comparisonsJoined();
        textsOneBehindTheOther();
        DUE.close();
    }

    private static void fault(String text, int want) {
        DUE.is("FAULT of \"" + text + "\"", Due.fault(new SunDesk(), 1, text), want);
    }

    private static void right(String text) {
        fault(text, -1);
    }

    /** Whether PARISH 0 is GRANTED PAPER 0 in the first HOUR by this RULE. */
    private static boolean grants(String rule) {
        SunDesk x = Due.hill("p;d;r");
        DUE.is("\"" + rule + "\" is told", Due.text(x, 1, rule), 0);
        x.rule(0);
        x.file(0, 0);
        x.go(1);
        return x.parish(0, 3) == 1;
    }

    private static void granted(String rule) {
        DUE.is("granted by \"" + rule + "\"", grants(rule), true);
    }

    private static void refused(String rule) {
        DUE.is("granted by \"" + rule + "\"", grants(rule), false);
    }

    /** Both SUMS are the same number, which is neither less nor more. */
    private static void equal(String sum, String same) {
        granted("y:" + sum + "=" + same + "?1");
        refused("y:" + sum + "<" + same + "?1");
        refused("y:" + sum + ">" + same + "?1");
    }

    private static void less(String sum, String more) {
        granted("y:" + sum + "<" + more + "?1");
        granted("y:" + more + ">" + sum + "?1");
        refused("y:" + sum + ">" + more + "?1");
        refused("y:" + sum + "=" + more + "?1");
    }

    private static void fourRules() {
        DUE.says("Terms", "RULES (4 at most)");
        SunDesk x = new SunDesk();
        for (int i = 0; i < 4; i++) {
            DUE.is("RULE " + i, Due.text(x, 1, "y:" + i), i);
            DUE.is("RULES", x.count(3), i + 1);
            DUE.is("the TAPE is empty", x.count(5), 0);
        }
        DUE.is("a fifth", Due.text(x, 1, "y:4"), -1);
        DUE.is("RULES", x.count(3), 4);
        DUE.is("the TAPE stays", x.count(5), 3);
        DUE.is("it is no FAULT", x.fault(1), -1);
        for (int i = 0; i < 4; i++) {
            Due.text(x, 0, "p;d;r");
            DUE.is("RULE " + i + " holds", x.rule(i), true);
            x.file(0, 0);
            x.go(1);
            DUE.is("by RULE " + i, x.parish(0, 3), i == 0 ? 0 : 1);
        }
    }

    private static void oneClauseAtLeast() {
        DUE.says("Terms", "CLAUSES with ; between, one at least: y, : , perhaps CONDITION ?, then SUM.");
        fault("", 0);
        fault("   ", 3);
        fault(";", 0);
        right("y:1");
        fault("y:1;", 4);
        right("y:1;y:2");
        fault("y:1;;y:2", 4);
        fault(";y:1", 0);
        right("y:1" + ";y:1".repeat(59));
        fault("y:1" + ";y:1".repeat(58) + ";", 236);
        right("y:h=1?1" + ";y:h=1?1".repeat(29));
    }

    private static void signsOfAClause() {
        for (int b = 1; b < 256; b++) {
            char c = (char) b;
            fault("" + c, c == 'y' || c == ' ' ? 1 : 0);
            fault("y" + c, c == ':' || c == ' ' ? 2 : 1);
            boolean atom = "hdwkpnz0123456789".indexOf(c) >= 0;
            fault("y:" + c, atom ? -1 : "[(! ".indexOf(c) >= 0 ? 3 : 2);
            fault("y:1;" + c, c == 'y' || c == ' ' ? 5 : 4);
            fault("y:h=1?" + c, atom ? -1 : c == '[' || c == ' ' ? 7 : 6);
            fault("y:h=" + c, atom || c == '[' || c == ' ' ? 5 : 4);
            fault("y:h=1&" + c, atom || "[(! ".indexOf(c) >= 0 ? 7 : 6);
            fault("y:(" + c, atom || "[(! ".indexOf(c) >= 0 ? 4 : 3);
            fault("y:[" + c, atom || c == '[' || c == ' ' ? 4 : 3);
            fault("y:1+" + c, atom ? -1 : c == '[' || c == ' ' ? 5 : 4);
        }
    }

    private static void oneToFourDigits() {
        DUE.says("Terms", "ATOM: a number (1 to 4 digits)");
        DUE.says("Terms", "a third digit (a fifth one in a RULE) itself, whatever stands ahead of it");
        for (String number : new String[] {"0", "9", "00", "99", "000", "999", "0000", "9999", "0001"}) {
            right("y:" + number);
            right("y:[" + number + "]=" + number + "?" + number);
        }
        for (String number : new String[] {"00000", "99999", "00001", "12345", "123456"}) {
            fault("y:" + number, 6);
            fault("y:h+" + number + "+h", 8);
            fault("y:h=" + number, 8);
            fault("y:[" + number + "]", 7);
            fault("y: " + number, 7);
        }
        fault("y:1 2", 4);
        fault("y:1234 5", 7);
        equal("0009", "9");
        equal("9999", "9998+1");
    }

    private static void letters() {
        DUE.says("Terms", "a letter (h d w k p n z)");
        for (char c = 'a'; c <= 'z'; c++) {
            boolean letter = "hdwkpnz".indexOf(c) >= 0;
            fault("y:" + c, letter ? -1 : 2);
            fault("y:" + (char) (c - 32), 2);
            fault("y:1+" + c + "*2", letter ? -1 : 4);
            fault("y:" + c + "1", letter ? 3 : 2);
            fault("y:1" + c, 3);
            fault("y:h" + c, 3);
        }
    }

    private static void behindAnAtom() {
        for (int b = 1; b < 256; b++) {
            char c = (char) b;
            boolean digit = c >= '0' && c <= '9';
            boolean sum = "+-*/".indexOf(c) >= 0;
            boolean compares = "=<>".indexOf(c) >= 0;
            fault("y:1" + c, digit || c == ' ' ? -1 : sum || compares || c == ';' ? 4 : 3);
            fault("y:h=1" + c, digit || sum || "?&| ".indexOf(c) >= 0 ? 6 : 5);
            fault("y:(h=1" + c, digit || sum || ")&| ".indexOf(c) >= 0 ? 7 : 6);
            fault("y:(h" + c, sum || compares || c == ' ' ? 5 : 4);
            fault("y:[1" + c, digit || sum || c == ' ' ? 5 : c == ']' ? -1 : 4);
            fault("y:h=[1" + c, digit || sum || "] ".indexOf(c) >= 0 ? 7 : 6);
            fault("y:(h=[1" + c, digit || sum || "] ".indexOf(c) >= 0 ? 8 : 7);
            fault("y:h=[1]" + c, sum || "?&| ".indexOf(c) >= 0 ? 8 : 7);
            fault("y:(h=[1]" + c, sum || ")&| ".indexOf(c) >= 0 ? 9 : 8);
            fault("y:h=1?[2" + c, c == ']' ? -1 : digit || sum || c == ' ' ? 9 : 8);
            fault("y:h=1?[2]" + c, c == ' ' ? -1 : sum || c == ';' ? 10 : 9);
            fault("y:(h=1)&[2" + c, digit || sum || "] ".indexOf(c) >= 0 ? 11 : 10);
            fault("y:(h=1)" + c, "?&| ".indexOf(c) >= 0 ? 8 : 7);
            fault("y:((h=1)" + c, ")&| ".indexOf(c) >= 0 ? 9 : 8);
            fault("y:!h" + c, sum || compares || c == ' ' ? 5 : 4);
            fault("y:h=1?2" + c, digit || c == ' ' ? -1 : sum || c == ';' ? 8 : 7);
            fault("y:([1]" + c, sum || compares || c == ' ' ? 7 : 6);
        }
    }

    private static void goesOnWithACondition() {
        DUE.says("Terms", "(A CLAUSE that goes on with ! or ( behind its : has a CONDITION.)");
        fault("y:(1)", 4);
        fault("y:(1)+2", 4);
        fault("y:(h=1)", 7);
        fault("y:(h=1);y:1", 7);
        fault("y:!h", 4);
        fault("y:!h=1", 6);
        fault("y:!1;", 4);
        right("y:(h=1)?2");
        right("y:!h=1?2");
        right("y:[1]");
        right("y:[1]+2");
        right("y:h");
        right("y:h=1?2");
        fault("y:h=1", 5);
        fault("y:1;y:(h)", 8);
        right("y:1;y:(h=1)?1");
        fault("y:h=1?(h=1)?1", 6);
        fault("y:h=1?!h=1?1", 6);
    }

    /** All rows of so many of ( [ ! of which each may stand within the one ahead of it: none but [ within [. */
    private static List<String> nests(int many) {
        List<String> nests = new ArrayList<>();
        for (int outer = 0; outer <= many; outer++) {
            for (int code = 0; code < 1 << outer; code++) {
                StringBuilder nest = new StringBuilder();
                for (int i = 0; i < outer; i++) {
                    nest.append((code >> i & 1) == 0 ? '(' : '!');
                }
                nests.add(nest + "[".repeat(many - outer));
            }
        }
        return nests;
    }

    /** A right RULE that begins so. */
    private static String closed(String nest) {
        StringBuilder text = new StringBuilder("y:" + nest + "h" + "]".repeat(nest.replaceAll("[^\\[]", "").length()));
        boolean condition = nest.indexOf('(') >= 0 || nest.indexOf('!') >= 0;
        text.append(condition ? "=1" : "").append(")".repeat(nest.replaceAll("[^(]", "").length()));
        return text.append(condition ? "?1" : "").toString();
    }

    private static void sixWithinOneAnother() {
        DUE.says("Terms", "At most six of ( [ ! within one another.");
        DUE.says("Terms", "a seventh of ( [ ! at it");
        for (int many = 1; many <= DEEP; many++) {
            for (String nest : nests(many)) {
                right(closed(nest));
                fault("y:" + nest, 2 + many);
            }
        }
        for (String nest : nests(DEEP + 1)) {
            fault(closed(nest), 2 + DEEP);
            fault("y:" + nest, 2 + DEEP);
            fault("y:1=1&" + nest, 6 + DEEP);
            fault("y:h|" + nest, 3);
        }
        for (String nest : nests(DEEP)) {
            for (char more : new char[] {'(', '!', '['}) {
                boolean unit = nest.indexOf('[') < 0;
                fault("y:" + nest + more, 2 + DEEP);
                fault("y:" + nest + " " + more, 3 + DEEP);
                if (unit) {
                    fault("y:" + nest + "h=1+" + more, 6 + DEEP);
                }
            }
        }
    }

    private static void notWithinOneAnother() {
        right("y:[1]" + "+[1]".repeat(40));
        right("y:[[[[[[1]]]]]]*[[[[[[1]]]]]]=[[[[[[1]]]]]]?[[[[[[1]]]]]]");
        right("y:!h=1" + "&!h=1".repeat(30) + "?1");
        right("y:!!!!!!h=1|!!!!!!h=1&!!!!!!h=1?1;y:!!!!!!h=1?1");
        right("y:((((((h=1))))))&((((((h=1))))))?1");
        right("y:(h=1)" + "|(h=1)".repeat(30) + "?1");
        right("y:!(!(!(h=1)&!h=2)&!(!h=3))?1");
        right("y:(!!!!!h=1&!!!!!h=2)&!!!!!!h=3?1");
        fault("y:(!!!!!h=1&!!!!!!h=2)?1", 17);
        fault("y:!!!!!!h=1&!!!!!!!h=1?1", 18);
        right("y:!!!!!h=[1]?1");
        right("y:!!!!!h=[1]+[2]?1");
        fault("y:!!!!!!h=[1]?1", 10);
        fault("y:!!!!!!h+[1]=1?1", 10);
        right("y:!!!!!!h=1&[h]=2?1");
        right("y:!!!!!!h=1?[[[[[[1]]]]]]");
        right("y:!(((((h=1)))))?[1]");
        fault("y:h=1?[[[[[[[1]]]]]]]", 12);
        fault("y:h=[[[[[[[1]]]]]]]?1", 10);
        right("y:h=[[[[[[1]]]]]]?1");
    }

    private static void blanks() {
        DUE.says("Terms", "Blanks (32) may stand between all signs of these, not within numbers");
        String text = "y:!(h=12|[d]<3)&w>4*k?p/2+1000;y:n-z";
        for (int i = 0; i <= text.length(); i++) {
            boolean within = i > 0 && i < text.length() && Character.isDigit(text.charAt(i)) && Character.isDigit(text.charAt(i - 1));
            fault(text.substring(0, i) + " " + text.substring(i), within ? i + 1 : -1);
            fault(text.substring(0, i) + "    " + text.substring(i), within ? i + 4 : -1);
            for (char c : new char[] {1, 9, 10, 13, 31, 33 + 2, 127, 160, 255}) {
                fault(text.substring(0, i) + c + text.substring(i), i);
            }
        }
        granted(" y : ! ( h = 12 | d < 0 ) & w > 0 ? p + 1 ; y : 0 ");
    }

    private static void endsTooEarly() {
        DUE.says("Terms", "(the length, if it ends too early");
        String text = "y:!(h=12|[d]<3)&w>4*k?p/2+1;y:n-z";
        for (int n = 0; n <= text.length(); n++) {
            String begun = text.substring(0, n);
            boolean whole = begun.endsWith("?p") || begun.endsWith("/2") || begun.endsWith("+1") || begun.endsWith(":n") || begun.endsWith("-z");
            fault(begun, whole ? -1 : n);
            fault(begun + "  ", whole ? -1 : n + 2);
        }
    }

    /** Each byte behind each beginning of right TEXTS. */
    private static void theFirstByte() {
        for (String text : new String[] {"y:!(h=12|[d]<3 )&w>4*k?p/2+1;y:n-z", "y:[[1+2]]=3&(((h>4)))?9;y:1"}) {
            for (int n = 0; n <= text.length(); n++) {
                for (int b = 1; b < 256; b++) {
                    String begun = text.substring(0, n) + (char) b;
                    fault(begun, Grammar.fault(1, begun));
                }
            }
        }
    }

    private static void numbersAreWithin() {
        DUE.says("Terms", "Behind each sign numbers are within -1,000,000 .. 1,000,000");
        String most = "[1000*1000]";
        String least = "[0-1000*1000]";
        equal("999*1001", "[1000*1000-1]");
        less("999*1001", most);
        equal("1001*1000", most);
        equal("9999*9999", most);
        equal("1000*1000+1", most);
        equal("1000*1000+1-1", "[999*1001]");
        equal("9999*9999-1", "[999*1001]");
        equal("9999*9999-9999", "[1000*999-8999]");
        equal(most + "+" + most + "-" + most, "0");
        equal("[0-999]*1001", "[1-1000*1000]");
        less(least, "[0-999]*1001");
        equal("0-1000*1000-1", least);
        equal("0-9999*9999", least);
        equal("[0-9999]*9999", least);
        equal("0-1000*1000-1+1", "[0-999*1001]");
        equal("[0-9999]*9999+9999", "[8999-1000*999]");
        equal(least + "*" + least, most);
        equal(least + "*" + most, least);
        equal(most + "*0", "0");
        equal(most + "/1000", "1000");
        equal("9999*9999/9999", "100");
        equal(least + "/" + least, "1");
        equal(least + "-" + most, least);
        equal(most + "-" + least, most);
        granted("y:9999*9999");
        refused("y:0-9999*9999");
        granted("y:9999*9999-999*1001");
        refused("y:9999*9999-1000*1000");
        refused("y:9999*9999-9999*9998");
        granted("y:0-9999*9999+9999*9999+1");
    }

    private static void cutsTowardsZero() {
        DUE.says("Terms", "/ cuts towards 0, by 0 gives 0.");
        for (int a = -7; a <= 7; a++) {
            for (int b = -3; b <= 3; b++) {
                int times = b == 0 ? 0 : Math.abs(a) / Math.abs(b) * Integer.signum(a) * Integer.signum(b);
                equal("[" + number(a) + "]/[" + number(b) + "]", "[" + number(times) + "]");
            }
        }
        equal("9999/0", "0");
        equal("1/0*9", "0");
        equal("1/0/0", "0");
        equal("0/0+3", "3");
        equal("1/[h-0]", "0");
        equal("9/2*2", "8");
        equal("2*9/4", "4");
    }

    private static String number(int v) {
        return v < 0 ? "0-" + -v : "" + v;
    }

    private static void firstClauseThatHolds() {
        DUE.says("Terms", "WORTH: the SUM of the first CLAUSE whose CONDITION holds (or has none), 0 without.");
        granted("y:1");
        granted("y:h=0?1;y:0");
        refused("y:h=0?0;y:1");
        granted("y:h=1?0;y:1");
        refused("y:h=1?1;y:0");
        refused("y:h=1?1");
        refused("y:h=1?1;y:h=2?1;y:h=3?1");
        granted("y:h=1?0;y:h=2?0;y:h=0?1;y:0");
        granted("y:1;y:0");
        refused("y:0;y:1");
        refused("y:0-1;y:1");
        granted("y:1;y:h=0?0");
    }

    private static void aboveZero() {
        DUE.says("2", "if WORTH by the RULE that holds is above 0 (none at first: always), else REFUSED");
        granted("y:1");
        refused("y:0");
        refused("y:0-1");
        granted("y:1/1");
        refused("y:1/2");
        refused("y:h");
        granted("y:w");
        refused("y:h=0&d=1?1");
        SunDesk x = Due.hill("p;d;r");
        Due.text(x, 1, "y:0");
        x.file(0, 0);
        x.go(1);
        DUE.is("none holds at first: always GRANTED", x.parish(0, 3), 1);
        x = Due.hill("p;d;r");
        Due.text(x, 1, "y:0");
        x.rule(0);
        x.rule(-1);
        x.file(0, 0);
        x.go(1);
        DUE.is("none holds again: always GRANTED", x.parish(0, 3), 1);
        DUE.is("never REFUSED", x.parish(0, 8), 0);
    }

    private static void howSignsBind() {
        DUE.says("Terms", "CONDITION: TRUTHS with | between; TRUTH: UNITS with & between; UNIT: ! UNIT, ( CONDITION ), or SUM, one of = < >, SUM. "
            + "SUM: TERMS with + or - between; TERM: ATOMS with * or / between");
        for (int code = 0; code < 8; code++) {
            boolean a = (code & 1) != 0;
            boolean b = (code & 2) != 0;
            boolean c = (code & 4) != 0;
            String abc = (a ? "0" : "1") + " " + (b ? "0" : "1") + " " + (c ? "0" : "1");
            String[] v = abc.split(" ");
            DUE.is(abc + " a|b&c", grants("y:h=" + v[0] + "|h=" + v[1] + "&h=" + v[2] + "?1"), a || b && c);
            DUE.is(abc + " a&b|c", grants("y:h=" + v[0] + "&h=" + v[1] + "|h=" + v[2] + "?1"), a && b || c);
            DUE.is(abc + " (a|b)&c", grants("y:(h=" + v[0] + "|h=" + v[1] + ")&h=" + v[2] + "?1"), (a || b) && c);
            DUE.is(abc + " a&(b|c)", grants("y:h=" + v[0] + "&(h=" + v[1] + "|h=" + v[2] + ")?1"), a && (b || c));
            DUE.is(abc + " !a&b|c", grants("y:!h=" + v[0] + "&h=" + v[1] + "|h=" + v[2] + "?1"), !a && b || c);
            DUE.is(abc + " !(a&b)|c", grants("y:!(h=" + v[0] + "&h=" + v[1] + ")|h=" + v[2] + "?1"), !(a && b) || c);
            DUE.is(abc + " !!a|!b&!c", grants("y:!!h=" + v[0] + "|!h=" + v[1] + "&!h=" + v[2] + "?1"), a || !b && !c);
        }
        equal("1+2*3", "7");
        equal("2*3+1", "7");
        equal("9-3-2", "4");
        equal("9-[3-2]", "8");
        equal("8/4/2", "1");
        equal("8/[4/2]", "4");
        equal("2*[3+1]", "8");
        equal("1-2+3", "2");
        equal("7-6/2*3+1", "[0-1]");
    }

    private static void comparisonsJoined() {
        String[] comparisons = {"1=1", "1<2", "2>1", "!1=2", "(0<1)", "1=2", "2<1", "1>2", "!1<2", "(0>1)"};
        for (int a = 0; a < comparisons.length; a++) {
            for (int b = 0; b < comparisons.length; b++) {
                String pair = comparisons[a] + " " + comparisons[b];
                DUE.is(pair + " &", grants("y:" + comparisons[a] + "&" + comparisons[b] + "?1"), a < 5 && b < 5);
                DUE.is(pair + " |", grants("y:" + comparisons[a] + "|" + comparisons[b] + "?1"), a < 5 || b < 5);
                DUE.is(pair + " !&", grants("y:!(" + comparisons[a] + "&" + comparisons[b] + ")?1"), a >= 5 || b >= 5);
            }
        }
    }

    /** What was read ahead of it, right or not, leaves nothing behind. */
    private static void textsOneBehindTheOther() {
        String[] texts = {"y:1", "y:!(h=1|[d]<2)?3;y:4", "y:(", "y:((((((", "y:!!!!!!", "y:[[[[[[", "y:[1", "y:(h=1)", "y:h=1", "y:!h", "y:h=1?", "y:[1+(", "y:1+",
            "y:(h=1)?1", "y:[1]", "y:!!!!!!h=1?1", "y:((((((h=1))))))?1", "y:[[[[[[1]]]]]]", "y:h=1?1", "x", ""};
        for (String first : texts) {
            for (String second : texts) {
                SunDesk x = new SunDesk();
                Due.fault(x, 1, first);
                DUE.is("FAULT of " + second + " behind " + first, Due.fault(x, 1, second), Grammar.fault(1, second));
            }
            SunDesk x = Due.hill("p;d;r");
            DUE.is("text of " + first, Due.text(x, 1, first) >= 0, Grammar.fault(1, first) == -1);
            int zero = Due.text(x, 1, "y:0");
            int one = Due.text(x, 1, "y:h=1?0;y:1");
            Due.fault(x, 1, first);
            x.rule(zero);
            x.file(0, 0);
            x.go(1);
            DUE.is("REFUSED by y:0 behind " + first, x.parish(0, 8), 1);
            x.rule(one);
            x.file(0, 0);
            x.go(1);
            DUE.is("REFUSED at 1 behind " + first, x.parish(0, 8), 2);
            x.file(0, 0);
            x.go(1);
            DUE.is("GRANTED at 2 behind " + first, x.parish(0, 3), 1);
        }
    }

    private static void asLongAsTheTape() {
        right("y:1" + "+1".repeat(118) + "0");
        granted("y:1" + "+1".repeat(118) + "0");
        refused("y:1" + "-1".repeat(118) + "0");
        SunDesk x = Due.hill("sa23;p;d;r");
        for (int i = 0; i < 4; i++) {
            DUE.is("four of 240 bytes", Due.text(x, 1, "y:0" + "+0".repeat(118) + (i % 2)), i);
        }
        for (int i = 0; i < 4; i++) {
            x.rule(i);
            x.file(0, 0);
            x.go(1);
            DUE.is("REFUSED by RULE " + i, x.parish(0, 8), 1 - i % 2);
            DUE.is("GRANTED by RULE " + i, x.parish(0, 3), i % 2);
            x.undo();
            x.undo();
        }
        // As many signs wait for what stands behind them as may.
        granted("y:" + "0=1|0=0&(".repeat(5) + "0=1|0=0&9=1+2*[1+3]" + ")".repeat(5) + "?1");
        refused("y:" + "0=1|0=0&(".repeat(5) + "0=1|0=0&9=1+2*[1+4]" + ")".repeat(5) + "?1");
        granted("y:0=1|0=0&98=1" + "+1*[1".repeat(6) + "+1*91" + "]".repeat(6) + "?1");
        refused("y:0=1|0=0&98=1" + "+1*[1".repeat(6) + "+1*92" + "]".repeat(6) + "?1");
        granted("y:" + "!".repeat(6) + "100=1+2*3-4/5+93&0=0?1");
        granted("y:" + "1=1&".repeat(58) + "1=1?1");
        refused("y:" + "1=1&".repeat(58) + "1=2?1");
        granted("y:" + "1=2|".repeat(58) + "1=1?1");
    }
}
