/** Promises 28 to 35: forms that are shared, bribes, what was seen, the works by the days. */
public final class GamePromisesTest {
    private static final Due DUE = new Due("games");

    public static void main(String[] args) {
        promise28();
        promise29();
        promise29Bounds();
        promise30();
        promise31();
        promise32And33();
        promise34();
        promise35();
        DUE.close();
    }

    private static void promise28() {
        SunDesk x = Due.hill("sl11;pn24f1;pn3f1;pn24f3;d;r;r;r;r");
        int[][] shares = {{111, 4, 3, 3}, {333, 4, 3, 3}, {113, 6, 3, 11}, {131, 6, 3, 5}, {311, 11, 3, 5}, {133, 11, 3, 5}};
        for (int[] s : shares) {
            for (int p = 0; p < 3; p++) {
                DUE.is("share(" + s[0] + ", " + p + ")", x.share(s[0], p), s[p + 1]);
            }
        }
        int[] none = {0, 1, 11, 13, 110, 112, 211, 1111, 3111, 10111, -111, 11111, Integer.MAX_VALUE, Integer.MIN_VALUE, 181, 191};
        for (int row : none) {
            DUE.is("share(" + row + ", 0)", x.share(row, 0), -1000000);
        }
        DUE.is("share(111, 3)", x.share(111, 3), -1000000);
        DUE.is("share(111, -1)", x.share(111, -1), -1000000);
        DUE.is("no HILL", new SunDesk().share(0, 0), -1000000);
        DUE.is("zeroes ahead", Due.hill("p;pf1;d;r;r").share(1, 0), 6);
        DUE.is("five", Due.hill("p;p;p;p;p;d;r").share(0, 4), 2);
        DUE.is("six", Due.hill("p;p;p;p;p;p;d;r").share(0, 0), -1000000);
        SunDesk held = Due.hill("sa20;p;pf1;d;r;r");
        held.file(0, 0);
        held.go(1);
        DUE.is("whatever they hold", held.share(11, 0), 6);
    }

    private static void rests(String hill, int... rows) {
        SunDesk x = Due.hill(hill);
        DUE.is("rests(-1) of " + hill, x.rests(-1), rows.length);
        for (int i = 0; i < rows.length; i++) {
            DUE.is("rests(" + i + ") of " + hill, x.rests(i), rows[i]);
        }
        DUE.is("rests(" + rows.length + ") of " + hill, x.rests(rows.length), -1);
        DUE.is("rests(-2) of " + hill, x.rests(-2), -1);
    }

    private static void promise29() {
        rests("p;d;r", 0);
        rests("pn24;pn24f1;d;r;r", 1, 10);
        rests("pn5;pn5f1;d;r;r", 0, 1, 10, 11);
        rests("sl12;pn6;pn12f1;d;r;r", 0 + 1, 10);
        // Three on two forms: two share, the third one is alone; with 1 hour over the lower one has it.
        rests("sl12;pn24;pn24;pn24f1;d;r;r", 1, 10, 11, 100, 101, 110);
        // Nobody needs more than it has by sharing all.
        rests("sl3;pn1;pn1;pn1f2;d;r;r;r", 0, 2, 20, 22, 200, 202, 220, 222);
        rests("sl1;pn1;pn1f1;d;r;r", 1, 10);
        rests("sl0;pn1;pn1f1;d;r;r", 0, 1, 10, 11);
    }

    private static void promise29Bounds() {
        SunDesk x = new SunDesk();
        DUE.is("no HILL", x.rests(-1), -1);
        DUE.is("no HILL", x.rests(0), -1);
        Due.text(x, 0, "p;p;p;p;p;p;d;r");
        for (int i = -2; i < 2; i++) {
            DUE.is("six, rests(" + i + ")", x.rests(i), -1000000);
        }
        Due.text(x, 0, "sl24;pn1f0;pn1f1;pn1f2;pn1f3;pn1f4;d;r;r;r;r;r");
        DUE.is("all rows of five", x.rests(-1), 3125);
        DUE.is("the last of them", x.rests(3124), 44444);
        DUE.is("no more", x.rests(3125), -1);
        DUE.is("the first", x.rests(0), 0);
        Due.text(x, 0, "p;d;r");
        DUE.is("another HILL", x.rests(-1), 1);
        DUE.is("another HILL", x.rests(1), -1);
    }

    private static void bribes(int g, int f, int c, int... all) {
        for (int what = 0; what < 4; what++) {
            DUE.is("bribes(" + g + ", " + f + ", " + c + ", " + what + ")", new SunDesk().bribes(g, f, c, what), all[what]);
        }
    }

    private static void promise30() {
        bribes(10, 20, 5, 1, 4, 1, 3);
        bribes(1, 99, 98, 98, 99, 1, 100);
        bribes(99, 99, 33, 1, 3, 1, 2);
        bribes(99, 2, 1, 1, 2, 99, 101);
        bribes(6, 9, 6, 2, 3, 2, 5);
        bribes(5, 5, 5, 1, 1, 0, 1);
        bribes(5, 4, 5, 1, 1, 0, 1);
        bribes(7, 1, 99, 1, 1, 0, 1);
        SunDesk x = new SunDesk();
        int[][] refused = {{0, 1, 1, 0}, {1, 0, 1, 0}, {1, 1, 0, 0}, {100, 1, 1, 0}, {1, 100, 1, 0}, {1, 1, 100, 0}, {1, 1, 1, 4}, {1, 1, 1, -1},
            {-5, 1, 1, 0}};
        for (int[] r : refused) {
            DUE.is("bribes(" + r[0] + ", " + r[1] + ", " + r[2] + ", " + r[3] + ")", x.bribes(r[0], r[1], r[2], r[3]), -1);
        }
    }

    private static void promise31() {
        SunDesk x = new SunDesk();
        DUE.is("no HILL", x.see(0, 0), -1);
        Due.text(x, 0, "p;p;d;r");
        DUE.is("see(2, 0)", x.see(2, 0), -1);
        DUE.is("see(-1, 0)", x.see(-1, 0), -1);
        DUE.is("see(0, 25)", x.see(0, 25), -1);
        DUE.is("see(0, -1)", x.see(0, -1), -1);
        DUE.is("nothing yet", x.count(9), 0);
        for (int i = 1; i <= 12; i++) {
            DUE.is("see " + i, x.see(i % 2, i == 1 ? 24 : 0), i);
        }
        DUE.is("there are 12", x.see(0, 0), -1);
        DUE.is("twelve", x.count(9), 12);
        DUE.is("it is no ACT", x.count(11), 0);
    }

    private static void promise32And33() {
        SunDesk x = new SunDesk();
        DUE.is("no HILL", x.could(-1), -1);
        DUE.is("no HILL", x.could(0), -1);
        DUE.is("no HILL", x.sure(), -1);
        Due.text(x, 0, "sl10;pn24;pn24;pn24f1;pn4f1;d;r;r");
        DUE.is("all sets", x.could(-1), 16);
        for (int i = 0; i < 16; i++) {
            DUE.is("could(" + i + ")", x.could(i), i);
        }
        DUE.is("could(16)", x.could(16), -1);
        DUE.is("could(-2)", x.could(-2), -1);
        DUE.is("none is sure", x.sure(), 0);
        x.see(0, 5);
        DUE.is("0 and 1 share", x.could(-1), 4);
        DUE.is("could(0)", x.could(0), 3);
        DUE.is("could(1)", x.could(1), 7);
        DUE.is("could(3)", x.could(3), 15);
        DUE.is("sure", x.sure(), 3);
        x.see(3, 4);
        DUE.is("3 has what it needs", x.could(-1), 2);
        DUE.is("could(0)", x.could(0), 11);
        DUE.is("could(1)", x.could(1), 15);
        DUE.is("sure", x.sure(), 11);
        x.see(2, 0);
        DUE.is("2 has none", x.could(-1), 1);
        DUE.is("could(0)", x.could(0), 11);
        DUE.is("could(1)", x.could(1), -1);
        x.see(1, 10);
        DUE.is("no such set", x.could(-1), 0);
        DUE.is("could(0)", x.could(0), -1);
        DUE.is("sure", x.sure(), -1);
        SunDesk none = Due.hill("p;p;d;r");
        none.see(0, 0);
        DUE.is("sure of none", none.sure(), 0);
    }

    private static void promise34() {
        SunDesk x = new SunDesk();
        DUE.is("no HILL", x.wrong(), -1);
        Due.text(x, 0, "sl10;pn24;pn24;d;r");
        DUE.is("nothing is seen", x.wrong(), 0);
        x.see(0, 5);
        DUE.is("it may be so", x.wrong(), 0);
        x.see(1, 10);
        DUE.is("one of these", x.wrong(), 1);
        x.see(1, 10);
        DUE.is("one of these three", x.wrong(), 1);
        x.see(0, 5);
        DUE.is("two of these four", x.wrong(), 2);
        x.see(0, 7);
        DUE.is("7 can't be", x.wrong(), 3);
        x.see(1, 0);
        DUE.is("0 is false by each", x.wrong(), 4);
        SunDesk all = Due.hill("sl10;pn4;d;r");
        for (int i = 0; i < 12; i++) {
            all.see(0, 5);
        }
        DUE.is("all twelve", all.wrong(), 12);
    }

    private static void promise35() {
        SunDesk x = new SunDesk();
        DUE.is("no HILL", x.works(1, 0), -1);
        Due.text(x, 0, "sa0l12;pn6;pn5;pf1n9;d;dc1;r;rd1");
        DUE.is("no LOG", x.works(1, 0), -1);
        int[] who = {0, 3, 1, 4, 6, 0, 3, 5};
        for (int set : who) {
            x.go(1);
            for (int p = 0; p < 3; p++) {
                if ((set >> p & 1) == 1) {
                    x.file(p, x.parish(p, 0));
                }
            }
            x.go(23);
        }
        x.go(1);
        // Who files at the second DESK is served in the HOUR of DAWN, behind it: it has light a DAY later.
        int[] hours = new int[x.count(10)];
        for (int i = 0; i < hours.length; i++) {
            hours[i] = x.log(hours.length - 1 - i, 1);
        }
        DUE.is("rows", hours.length, 9);
        DUE.is("not all are alike", hours[1] == 0 && hours[2] == 11 && hours[3] == 6, true);
        for (int n = 1; n <= 9; n++) {
            int most = -1;
            int first = -1;
            for (int i = 0; i + n <= 9; i++) {
                int sum = 0;
                for (int k = 0; k < n; k++) {
                    sum += hours[i + k];
                }
                if (sum > most) {
                    most = sum;
                    first = i;
                }
            }
            DUE.is("works(" + n + ", 0)", x.works(n, 0), first);
            DUE.is("works(" + n + ", 1)", x.works(n, 1), most);
        }
        DUE.is("works(0, 0)", x.works(0, 0), -1);
        DUE.is("works(10, 0)", x.works(10, 0), -1);
        DUE.is("works(-1, 0)", x.works(-1, 0), -1);
        DUE.is("works(1, 2)", x.works(1, 2), -1);
        DUE.is("works(1, -1)", x.works(1, -1), -1);
        SunDesk dark = Due.hill("sa0;p;d;r");
        dark.go(25);
        DUE.is("the LOG is shorter", dark.works(3, 0), -1);
        DUE.is("the LOG is shorter", dark.works(3, 1), -1);
        DUE.is("of several the earliest", dark.works(2, 0), 0);
        DUE.is("no hours", dark.works(2, 1), 0);
        SunDesk full = Due.hill("sa0;p;d;r");
        full.file(0, 0);
        for (int i = 0; i < 6; i++) {
            full.go(240);
        }
        DUE.is("in the LOG", full.works(1, 0), 1);
        full.go(1);
        DUE.is("0 is the earliest in the LOG", full.works(1, 0), 0);
        full.go(24);
        DUE.is("it is there no more", full.works(1, 1), 0);
    }
}
