import java.util.ArrayList;
import java.util.List;

/** The edges of forms that are shared, of bribes, of what was SEEN and of WORKS: promises 28 to 35. */
public final class GameEdgeTest {
    private static final Due DUE = new Due("games' edges");

    public static void main(String[] args) {
        fiveAtMost();
        aFormOfAny();
        digitsOfARow();
        hoursAsAtDawn();
        restsBySearch();
        restsRising();
        restsOfAll();
        restsAnew();
        bribesBelow();
        bribesPlain();
        bribesBounds();
        twelveSeen();
        hoursSeen();
        couldBySearch();
        sure();
        wrong();
        works();
        worksOfSeveral();
        worksOfShortLogs();
        DUE.close();
    }

    private static void fiveAtMost() {
        DUE.says("3", "SHARES: each PARISH (5 at most)");
        for (int n = 1; n <= 6; n++) {
            SunDesk x = Due.hill("sl24;pn24" + ";pn24".repeat(n - 1) + ";d;r");
            for (int p = -1; p <= 6; p++) {
                DUE.is("share(0, " + p + ") of " + n, x.share(0, p), n > 5 || p < 0 || p >= n ? -1000000 : 24 / n + (p < 24 % n ? 1 : 0));
            }
            DUE.is("rests(-1) of " + n, x.rests(-1), n > 5 ? -1000000 : 1);
            DUE.is("rests(0) of " + n, x.rests(0), n > 5 ? -1000000 : 0);
            DUE.is("rests(1) of " + n, x.rests(1), n > 5 ? -1000000 : -1);
        }
    }

    private static void aFormOfAny() {
        DUE.says("3", "chooses one of the PAPERS that are a FORM of any PARISH");
        SunDesk x = Due.hill("sl12;pf2n24;pf5n24;d;r;r;r;r;r;r;r;r");
        for (int a = 0; a < 10; a++) {
            for (int b = 0; b < 10; b++) {
                boolean row = (a == 2 || a == 5) && (b == 2 || b == 5);
                DUE.is("share(" + a + b + ", 0)", x.share(a * 10 + b, 0), !row ? -1000000 : a == b ? 6 : 12);
            }
        }
        DUE.is("rests", x.rests(-1), 2);
        DUE.is("the first", x.rests(0), 25);
        DUE.is("the second", x.rests(1), 52);
    }

    private static void digitsOfARow() {
        DUE.says("Promise 28", "Hours of a PARISH by a row of PAPERS (digits, PARISH 0 the highest).");
        SunDesk x = Due.hill("sl24;pn24f7;pn23f6;pn22f5;pn21f4;pn20;d;r;r;r;r;r;r;r;r");
        int[] needs = {24, 23, 22, 21, 20};
        for (int p = 0; p < 5; p++) {
            DUE.is("each alone: " + p, x.share(76540, p), needs[p]);
        }
        for (int p = 0; p < 5; p++) {
            DUE.is("share(7, " + p + ")", x.share(7, p), p == 4 ? 20 : 6);
            DUE.is("share(70000, " + p + ")", x.share(70000, p), p == 0 ? 24 : 6);
            DUE.is("share(645, " + p + ")", x.share(645, p), p < 2 ? 12 : p == 2 ? 22 : p == 3 ? 21 : 20);
            DUE.is("share(55077, " + p + ")", x.share(55077, p), p == 2 ? 22 : 12);
        }
        for (int none : new int[] {1, 76541, 176540, 100000, 765400, 1000000000, 2147483647, -1, -76540, Integer.MIN_VALUE, 76548, 76549, 96540}) {
            for (int p = 0; p < 5; p++) {
                DUE.is("share(" + none + ", " + p + ")", x.share(none, p), -1000000);
            }
        }
        SunDesk one = Due.hill("pf3;d;r;r;r;r");
        for (int i = -40; i < 140; i++) {
            DUE.is("share(" + i + ", 0) of one", one.share(i, 0), i == 3 ? 6 : -1000000);
        }
    }

    /** As if the hours of each PAPER were dealt out one by one, the lowest first. */
    private static int dealt(int light, int[] chosen, int[] needs, int parish) {
        int mine = 0;
        for (int hour = 0, p = chosen.length - 1; hour < light; hour++) {
            do {
                p = (p + 1) % chosen.length;
            } while (chosen[p] != chosen[parish]);
            mine += p == parish ? 1 : 0;
        }
        return Math.min(mine, needs[parish]);
    }

    private static void hoursAsAtDawn() {
        DUE.says("3", "all hold what they chose: hours as at DAWN");
        int[] needs = {24, 3, 24, 6, 24};
        for (int light = 0; light <= 24; light++) {
            SunDesk x = Due.hill("sl" + light + ";pn24;pn3f1;pn24;pn6;pn24f1;d;r;r");
            for (int code = 0; code < 32; code++) {
                int[] chosen = new int[5];
                int row = 0;
                for (int p = 0; p < 5; p++) {
                    chosen[p] = code >> 4 - p & 1;
                    row = row * 10 + chosen[p];
                }
                int asked = code % 5;
                DUE.is("share(" + row + ", " + asked + ") by " + light, x.share(row, asked), dealt(light, chosen, needs, asked));
            }
        }
    }

    private static List<Integer> restsOf(int light, int[] needs, int forms) {
        List<Integer> rests = new ArrayList<>();
        int n = needs.length;
        int all = (int) Math.round(Math.pow(forms, n));
        for (int code = 0; code < all; code++) {
            int[] chosen = new int[n];
            int row = 0;
            for (int p = n - 1, left = code, ten = 1; p >= 0; p--, left /= forms, ten *= 10) {
                chosen[p] = left % forms;
                row += chosen[p] * ten;
            }
            boolean rest = true;
            for (int p = 0; p < n; p++) {
                int mine = dealt(light, chosen, needs, p);
                int own = chosen[p];
                for (int other = 0; other < forms; other++) {
                    chosen[p] = other;
                    rest &= dealt(light, chosen, needs, p) <= mine;
                }
                chosen[p] = own;
            }
            if (rest) {
                rests.add(row);
            }
        }
        return rests;
    }

    private static void restsBySearch() {
        DUE.says("3", "RESTS: rows (digits, PARISH 0 the highest) by which nobody has more by another one alone: how many, the i-th (rising).");
        DUE.says("Promise 29", "RESTS: how many (i NONE), the i-th.");
        int[][] all = {{24, 24, 24, 24}, {24, 6, 3, 1}, {1, 1, 1, 1}, {12, 12, 12, 12}, {5, 24, 6, 7}};
        for (int light = 0; light <= 24; light += 3) {
            for (int[] needs : all) {
                for (int forms = 1; forms <= 3; forms++) {
                    StringBuilder hill = new StringBuilder("sl" + light + ";d;r;r;r");
                    for (int p = 0; p < 4; p++) {
                        hill.append(";pn").append(needs[p]).append("f").append(Math.min(p, forms - 1));
                    }
                    SunDesk x = Due.hill(hill.toString());
                    List<Integer> want = restsOf(light, needs, forms);
                    DUE.is("rests of " + hill, x.rests(-1), want.size());
                    for (int i = 0; i < want.size(); i++) {
                        DUE.is("rests(" + i + ") of " + hill, x.rests(i), want.get(i));
                    }
                    DUE.is("no more of " + hill, x.rests(want.size()), -1);
                }
            }
        }
    }

    private static void restsRising() {
        SunDesk x = Due.hill("sl0;p;pf1;pf2;d;r;r;r");
        DUE.is("all rows rest where there is no LIGHT", x.rests(-1), 27);
        for (int i = 0; i < 27; i++) {
            DUE.is("rests(" + i + ")", x.rests(i), i / 9 * 100 + i / 3 % 3 * 10 + i % 3);
        }
        DUE.is("rests(27)", x.rests(27), -1);
        DUE.is("rests(-2)", x.rests(-2), -1);
        SunDesk y = Due.hill("sl0;p;pf1;pf2;d;r;r;r");
        DUE.is("the last one, asked for first", y.rests(26), 222);
        DUE.is("the first one", y.rests(0), 0);
    }

    private static void restsOfAll() {
        SunDesk x = Due.hill("sl0;pf7;pf6;pf3;pf1;pf2;d;r;r;r;r;r;r;r;r");
        int[] forms = {1, 2, 3, 6, 7};
        DUE.is("five of five", x.rests(-1), 3125);
        for (int i = 0; i < 3125; i += 71) {
            int row = 0;
            for (int ten = 1, left = i; ten < 100000; ten *= 10, left /= 5) {
                row += forms[left % 5] * ten;
            }
            DUE.is("rests(" + i + ")", x.rests(i), row);
        }
        DUE.is("the last", x.rests(3124), 77777);
        DUE.is("no more", x.rests(3125), -1);
        SunDesk alone = Due.hill("sl24;pn24f4;pn24f3;pn24f2;pn24f1;pn24;d;r;r;r;r;r");
        DUE.is("each has a PAPER of its own", alone.rests(-1), 120);
        DUE.is("the first", alone.rests(0), 1234);
        DUE.is("the last", alone.rests(119), 43210);
    }

    private static void restsAnew() {
        SunDesk x = Due.hill("pn24;pn24f1;d;r;r");
        DUE.is("two", x.rests(-1), 2);
        Due.text(x, 0, "p;p");
        DUE.is("a HILL that was refused", x.rests(1), 10);
        Due.text(x, 0, "pn24f1;d;r;r");
        DUE.is("another HILL", x.rests(0), 1);
        DUE.is("one", x.rests(-1), 1);
        Due.text(x, 0, "p;p;p;p;p;p;d;r");
        DUE.is("six", x.rests(0), -1000000);
        Due.text(x, 0, "p;p;d;r");
        DUE.is("two again", x.rests(0), 0);
        DUE.is("one row", x.rests(1), -1);
        x.file(0, 0);
        x.go(100);
        DUE.is("however it stands", x.rests(-1), 1);
    }

    private static void bribesOf(int g, int f, int c, int... all) {
        for (int what = 0; what < 4; what++) {
            DUE.is("bribes(" + g + ", " + f + ", " + c + ", " + what + ")", new SunDesk().bribes(g, f, c, what), all[what]);
        }
    }

    private static void bribesBelow() {
        DUE.says("3", "At rest: if c is below f, one bribes by c of f parts, an AUDIT is by g of g and f parts; else one always bribes and there is no AUDIT.");
        bribesOf(7, 11, 10, 10, 11, 7, 18);
        bribesOf(7, 11, 11, 1, 1, 0, 1);
        bribesOf(7, 11, 12, 1, 1, 0, 1);
        bribesOf(1, 1, 1, 1, 1, 0, 1);
        bribesOf(1, 2, 1, 1, 2, 1, 3);
        bribesOf(99, 99, 98, 98, 99, 1, 2);
        bribesOf(99, 99, 99, 1, 1, 0, 1);
        for (int c = 1; c <= 99; c++) {
            SunDesk x = new SunDesk();
            DUE.is("an AUDIT for " + c, x.bribes(1, 50, c, 2), c < 50 ? 1 : 0);
            DUE.is("an AUDIT for " + c, x.bribes(1, 50, c, 3), c < 50 ? 51 : 1);
        }
    }

    private static void bribesPlain() {
        DUE.says("3", "Both as fractions made plain (above, below; 1 by 1, 0 by 1).");
        DUE.says("Promise 30", "BRIBES: 0, 1 by how many parts one bribes (above, below), 2, 3 by how many there is an AUDIT.");
        for (int f = 2; f <= 99; f++) {
            SunDesk x = new SunDesk();
            for (int c = 1; c < f; c += 1 + f / 40) {
                int above = x.bribes(c, f, c, 0);
                int below = x.bribes(c, f, c, 1);
                DUE.is("the same fraction", above * f, below * c);
                DUE.is("made plain", divisors(above, below), 1);
                above = x.bribes(c, f, c, 2);
                below = x.bribes(c, f, c, 3);
                DUE.is("the same fraction", above * (c + f), below * c);
                DUE.is("made plain", divisors(above, below), 1);
            }
        }
        bribesOf(99, 98, 49, 1, 2, 99, 197);
        bribesOf(99, 99, 66, 2, 3, 1, 2);
        bribesOf(33, 99, 1, 1, 99, 1, 4);
    }

    /** How many numbers divide both. */
    private static int divisors(int a, int b) {
        int many = 0;
        for (int d = 1; d <= b; d++) {
            many += a % d == 0 && b % d == 0 ? 1 : 0;
        }
        return many;
    }

    private static void bribesBounds() {
        DUE.says("3", "BRIBES: who bribes gains g (1 .. 99) unless there is an AUDIT, then it pays f (1 .. 99); an AUDIT costs c (1 .. 99)");
        SunDesk x = new SunDesk();
        for (int v = -1; v <= 101; v++) {
            boolean within = v >= 1 && v <= 99;
            DUE.is("g " + v, x.bribes(v, 50, 50, 0), within ? 1 : -1);
            DUE.is("f " + v, x.bribes(50, v, 99, 0), within ? 1 : -1);
            DUE.is("c " + v, x.bribes(50, 1, v, 0), within ? 1 : -1);
        }
        for (int what = -1; what <= 4; what++) {
            DUE.is("what " + what, x.bribes(2, 2, 1, what), what == 0 || what == 2 ? 1 : what == 1 || what == 3 ? 2 : -1);
        }
    }

    private static void twelveSeen() {
        DUE.says("4", "SEEN (12 at most)");
        DUE.says("Promise 31", "SEEN: how many there are.");
        SunDesk x = Due.hill("sl12;p;pf1;d;r;r");
        for (int i = 1; i <= 12; i++) {
            DUE.is("see " + i, x.see(0, 6), i);
            DUE.is("SEEN", x.count(9), i);
        }
        DUE.is("a 13th", x.see(1, 0), -1);
        DUE.is("SEEN", x.count(9), 12);
        DUE.is("it is not among them", x.could(-1), 2);
        DUE.is("sure", x.sure(), 1);
        Due.text(x, 0, "sl12;p;pf1;d;r;r");
        DUE.is("none of another HILL", x.count(9), 0);
        DUE.is("see", x.see(1, 6), 1);
        SunDesk last = Due.hill("sl12;p;pf1;d;r;r");
        for (int i = 1; i <= 11; i++) {
            last.see(0, 6);
        }
        last.see(1, 0);
        DUE.is("the 12th counts", last.could(-1), 1);
        DUE.is("wrong", last.wrong(), 0);
    }

    private static void hoursSeen() {
        DUE.says("4", "at one DAWN a PARISH had so many hours (0 .. 24).");
        for (int h = -2; h <= 26; h++) {
            SunDesk x = Due.hill("sl24;pn24;p;p;p;p;p;d;r");
            DUE.is("see(0, " + h + ")", x.see(0, h), h >= 0 && h <= 24 ? 1 : -1);
            DUE.is("see(5, " + h + ")", x.see(5, h), h >= 0 && h <= 24 ? 2 : -1);
            DUE.is("SEEN", x.count(9), h >= 0 && h <= 24 ? 2 : 0);
        }
        SunDesk x = Due.hill("sl24;pn24;d;r");
        x.see(0, 24);
        DUE.is("24 can be", x.sure(), 1);
        x = Due.hill("sl24;pn24;d;r");
        x.see(0, 0);
        DUE.is("0 can be", x.could(0), 0);
        DUE.is("by one set", x.could(-1), 1);
    }

    /** The hours of a PARISH, if this set held their FORMS. */
    private static int hours(int light, int[] forms, int[] needs, int set, int parish) {
        int m = 0;
        int lower = 0;
        for (int p = 0; p < forms.length; p++) {
            if ((set >> p & 1) == 1 && forms[p] == forms[parish]) {
                m++;
                lower += p < parish ? 1 : 0;
            }
        }
        return (set >> parish & 1) == 0 ? 0 : Math.min(needs[parish], light / m + (lower < light % m ? 1 : 0));
    }

    private static void couldBySearch() {
        DUE.says("4", "COULD: sets of PARISHES (bits) that held their FORMS then, by which all SEEN is so: how many, the i-th (rising).");
        DUE.says("Promise 32", "COULD: how many (i NONE), the i-th.");
        int[] forms = {0, 1, 0, 0, 1, 2};
        int[] needs = {24, 5, 3, 24, 24, 1};
        for (int light = 0; light <= 24; light++) {
            for (int code = 0; code < 24; code++) {
                SunDesk x = Due.hill("sl" + light + ";pn24;pn5f1;pn3;pn24;pn24f1;pn1f2;d;r;r;r");
                int truth = code * 11 % 64;
                int[] seen = new int[6];
                for (int i = 0; i < code % 6; i++) {
                    seen[i] = (i * 5 + code) % 6;
                    int h = hours(light, forms, needs, truth, seen[i]);
                    x.see(seen[i], code % 4 == 3 && i == 0 ? 24 - h : h);
                }
                List<Integer> want = new ArrayList<>();
                int fewest = 6;
                for (int set = 0; set < 64; set++) {
                    int wrong = 0;
                    for (int i = 0; i < code % 6; i++) {
                        int h = hours(light, forms, needs, truth, seen[i]);
                        wrong += hours(light, forms, needs, set, seen[i]) == (code % 4 == 3 && i == 0 ? 24 - h : h) ? 0 : 1;
                    }
                    fewest = Math.min(fewest, wrong);
                    if (wrong == 0) {
                        want.add(set);
                    }
                }
                checkCould(x, want, fewest);
            }
        }
    }

    private static void checkCould(SunDesk x, List<Integer> want, int fewest) {
        DUE.is("could(-1)", x.could(-1), want.size());
        int sure = want.isEmpty() ? -1 : 63;
        for (int i = 0; i < want.size(); i++) {
            DUE.is("could(" + i + ")", x.could(i), want.get(i));
            sure &= want.get(i);
        }
        DUE.is("no more", x.could(want.size()), -1);
        DUE.is("could(-2)", x.could(-2), -1);
        DUE.is("sure()", x.sure(), sure);
        DUE.is("wrong()", x.wrong(), fewest);
    }

    private static void sure() {
        DUE.says("4", "SURE: PARISHES in all of these.");
        DUE.says("Promise 33", "SURE, as bits.");
        SunDesk x = Due.hill("sl12;pn24;pn24;pn24f1;pn24f1;pn24f2;pn24f3;d;r;r;r;r");
        DUE.is("nothing is SEEN", x.sure(), 0);
        DUE.is("all sets", x.could(-1), 64);
        DUE.is("the last of them", x.could(63), 63);
        DUE.is("no more", x.could(64), -1);
        x.see(0, 6);
        DUE.is("two of them", x.sure(), 3);
        x.see(2, 0);
        x.see(3, 12);
        DUE.is("and another one", x.sure(), 11);
        x.see(4, 12);
        x.see(5, 12);
        DUE.is("all but one", x.sure(), 59);
        DUE.is("one set", x.could(-1), 1);
        x.see(2, 6);
        DUE.is("no such set", x.sure(), -1);
        SunDesk all = Due.hill("sl12;p;pf1;pf2;pf3;pf4;pf5;d;r;r;r;r;r;r");
        for (int p = 0; p < 6; p++) {
            all.see(p, 6);
        }
        DUE.is("all", all.sure(), 63);
        SunDesk none = Due.hill("sl12;p;p;d;r");
        none.see(0, 0);
        none.see(1, 0);
        DUE.is("none is in the only set", none.sure(), 0);
        SunDesk dark = Due.hill("sl0;p;p;d;r");
        dark.see(0, 0);
        DUE.is("without LIGHT any set can be", dark.could(-1), 4);
    }

    private static void wrong() {
        DUE.says("4", "FALSE: the fewest of what was SEEN that have to be false so that there is such a set.");
        DUE.says("Promise 34", "FALSE: how many.");
        for (int many = 0; many <= 12; many++) {
            SunDesk x = Due.hill("sl12;p;d;r");
            for (int i = 0; i < many; i++) {
                x.see(0, i % 2 == 0 ? 6 : 0);
            }
            DUE.is("half of " + many, x.wrong(), many / 2);
            SunDesk all = Due.hill("sl12;p;p;d;r");
            for (int i = 0; i < many; i++) {
                all.see(i % 2, 7 + i);
            }
            DUE.is("all of " + many, all.wrong(), many);
            SunDesk dark = Due.hill("sl12;p;p;d;r");
            for (int i = 0; i < many; i++) {
                dark.see(i % 2, 0);
            }
            DUE.is("by the empty set none of " + many, dark.wrong(), 0);
            SunDesk none = Due.hill("sl12;p;pn3;d;r");
            for (int i = 0; i < many; i++) {
                none.see(i % 2, i % 2 == 0 ? 6 : 3);
            }
            DUE.is("none of " + many, none.wrong(), 0);
        }
    }

    /** A LOG of so many DAYS; PARISH p has its 2 to the p hours at a DAWN as the bits of that DAY tell. */
    private static SunDesk logged(int... days) {
        SunDesk x = Due.hill("sa0l24;pn1;pn2f1;pn4f2;d;d;d;r;rd1;rd2");
        x.go(1);
        for (int i = 1; i < days.length; i++) {
            for (int p = 0; p < 3; p++) {
                if ((days[i] >> p & 1) == 1) {
                    x.file(p, p);
                }
            }
            x.go(24);
            DUE.is("hours of DAY " + i, x.log(0, 1), days[i]);
        }
        return x;
    }

    private static void works() {
        DUE.says("4", "WORKS for n (1 .. 9) DAYS: n rows of the LOG one behind the other, with the most hours of all together");
        DUE.says("Promise 35", "WORKS: the first (0), the hours (1).");
        int[] days = {0, 3, 5, 0, 7, 1, 1, 6, 4, 2, 7, 0};
        SunDesk x = logged(days);
        for (int n = 0; n <= 10; n++) {
            int first = -1;
            int most = -1;
            for (int i = 0; i + n <= days.length && n >= 1 && n <= 9; i++) {
                int hours = 0;
                for (int k = 0; k < n; k++) {
                    hours += days[i + k];
                }
                if (hours > most) {
                    first = i;
                    most = hours;
                }
            }
            DUE.is("works(" + n + ", 0)", x.works(n, 0), first);
            DUE.is("works(" + n + ", 1)", x.works(n, 1), most);
            DUE.is("works(" + n + ", 2)", x.works(n, 2), -1);
            DUE.is("works(" + n + ", -1)", x.works(n, -1), -1);
        }
        DUE.is("one DAY", x.works(1, 0), 4);
        DUE.is("its hours", x.works(1, 1), 7);
    }

    private static void worksOfSeveral() {
        DUE.says("4", "(of several the earliest): the first (0 the earliest in the LOG); the hours.");
        SunDesk alike = logged(0, 5, 0, 5, 0, 5);
        for (int n = 1; n <= 6; n++) {
            DUE.is("of several the earliest: " + n, alike.works(n, 0), n % 2);
            DUE.is("hours: " + n, alike.works(n, 1), (n + 1) / 2 * 5);
        }
        DUE.is("none at all: the earliest", logged(0, 0, 0).works(2, 0), 0);
        DUE.is("no hours", logged(0, 0, 0).works(2, 1), 0);
        DUE.is("the latest", logged(0, 1, 2, 3).works(1, 0), 3);
        DUE.is("the latest two", logged(0, 1, 2, 3).works(2, 0), 2);
        SunDesk full = Due.hill("sa0;p;d;r");
        full.file(0, 0);
        Due.pass(full, 1440);
        DUE.is("60 rows", full.count(10), 60);
        DUE.is("the second of 60", full.works(1, 0), 1);
        DUE.is("the first nine", full.works(9, 0), 0);
        full.go(1);
        DUE.is("now it is the earliest in the LOG", full.works(1, 0), 0);
        DUE.is("with its hours", full.works(9, 1), 6);
        full.go(24);
        DUE.is("it is there no more", full.works(9, 1), 0);
    }

    private static void worksOfShortLogs() {
        for (int rows = 0; rows <= 10; rows++) {
            SunDesk x = Due.hill("sa0;p;d;r");
            if (rows > 0) {
                x.go(24 * rows - 23);
            }
            DUE.is("rows", x.count(10), rows);
            for (int n = 1; n <= 9; n++) {
                DUE.is("works(" + n + ", 0) of " + rows, x.works(n, 0), n <= rows ? 0 : -1);
                DUE.is("works(" + n + ", 1) of " + rows, x.works(n, 1), n <= rows ? 0 : -1);
            }
        }
    }
}
