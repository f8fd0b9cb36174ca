/** Promises 6 to 9, 12 to 18 and 38: what stands, what is filed, how the hours pass. */
public final class HourPromisesTest {
    private static final Due DUE = new Due("hours");

    public static void main(String[] args) {
        promise6();
        promise7();
        promise8();
        promise9();
        promise12();
        promise13();
        promise14Desks();
        promise14Dawn();
        promise14Rules();
        promise14Bounds();
        promise15();
        promise16();
        promise16Eclipse();
        promise17();
        promise17Log();
        promise18();
        promise38();
        DUE.close();
    }

    private static void promise6() {
        SunDesk x = Due.hill("p;d;r");
        DUE.is("DAWN untold", x.sun(0), 6);
        DUE.is("LIGHT untold", x.sun(1), 12);
        DUE.is("sun(2)", x.sun(2), -1);
        DUE.is("sun(-1)", x.sun(-1), -1);
        Due.text(x, 0, "p;d;r;s l 0 a 23");
        DUE.is("DAWN", x.sun(0), 23);
        DUE.is("LIGHT", x.sun(1), 0);
        DUE.is("no HILL", new SunDesk().sun(1), -1);
    }

    private static void promise7() {
        SunDesk x = Due.hill("p;pz9f1n24;d t3e4;r;r;sa1");
        int[][] parishes = {{0, 6, 5, 0, -1, 0, 0, 0, 0}, {1, 24, 9, 0, -1, 0, 0, 0, 0}};
        for (int p = 0; p < 2; p++) {
            for (int what = 0; what < 9; what++) {
                DUE.is("parish(" + p + ", " + what + ")", x.parish(p, what), parishes[p][what]);
            }
        }
        x.file(1, 1);
        DUE.is("for which PAPER it waits", x.parish(1, 4), 1);
        x.go(2);
        DUE.is("hours done for it", x.parish(1, 5), 2);
        x.go(1);
        DUE.is("it is done", x.parish(1, 5), 0);
        DUE.is("it waits nowhere", x.parish(1, 4), -1);
        DUE.is("it holds it", x.parish(1, 3), 2);
        DUE.is("it PAID", x.parish(1, 7), 4);
        x.go(23);
        DUE.is("light at the latest DAWN", x.parish(1, 6), 12);
        DUE.is("it holds it no more", x.parish(1, 3), 0);
        DUE.is("never REFUSED", x.parish(1, 8), 0);
        DUE.isMissing(x, 2, 0);
        DUE.isMissing(x, -1, 0);
        DUE.isMissing(x, 0, 9);
        DUE.isMissing(x, 0, -1);
        DUE.isMissing(new SunDesk(), 0, 0);
    }

    private static void promise8() {
        SunDesk x = Due.hill("p;p;d;do5c7t2e0;r;rd1;sa0");
        int[][] desks = {{0, 24, 1, 1, 0, -1, 1}, {5, 7, 2, 0, 0, -1, 0}};
        for (int d = 0; d < 2; d++) {
            for (int what = 0; what < 7; what++) {
                DUE.is("desk(" + d + ", " + what + ")", x.desk(d, what), desks[d][what]);
            }
        }
        x.file(1, 1);
        x.file(0, 1);
        DUE.is("BACKLOG", x.desk(1, 4), 2);
        DUE.is("the first", x.desk(1, 5), 1);
        DUE.is("nobody at the other one", x.desk(0, 5), -1);
        for (int hour = 0; hour < 30; hour++) {
            DUE.is("open at HOUR " + hour, x.desk(1, 6), hour % 24 == 5 || hour % 24 == 6 ? 1 : 0);
            x.go(1);
        }
        DUE.is("the second one", x.desk(1, 5), 0);
        DUE.is("desk(1, 7)", x.desk(1, 7), -1);
        DUE.is("desk(1, -1)", x.desk(1, -1), -1);
        DUE.is("desk(2, 0)", x.desk(2, 0), -1);
        DUE.is("desk(-1, 0)", x.desk(-1, 0), -1);
        DUE.is("no HILL", new SunDesk().desk(0, 4), -1);
    }

    private static void promise9() {
        SunDesk x = Due.hill("p;d;d;r;rd1n0;rm1n2");
        int[][] papers = {{0, -1, -1}, {1, 0, -1}, {0, 2, 1}};
        for (int r = 0; r < 3; r++) {
            for (int what = 0; what < 3; what++) {
                DUE.is("paper(" + r + ", " + what + ")", x.paper(r, what), papers[r][what]);
            }
            DUE.is("paper(" + r + ", 3)", x.paper(r, 3), -1);
            DUE.is("paper(" + r + ", -1)", x.paper(r, -1), -1);
        }
        DUE.is("paper(3, 0)", x.paper(3, 0), -1);
        DUE.is("paper(-1, 0)", x.paper(-1, 0), -1);
        DUE.is("no HILL", new SunDesk().paper(0, 0), -1);
    }

    private static void promise12() {
        SunDesk x = Due.hill("p;p;p;d;d;r;rn0;rd1;rn3;sa23");
        String before = Due.stand(x);
        int[][] refused = {{-1, 0}, {3, 0}, {0, -1}, {0, 4}, {0, 1}, {0, 3}};
        for (int[] f : refused) {
            DUE.is("file(" + f[0] + ", " + f[1] + ")", x.file(f[0], f[1]), -1);
        }
        DUE.same("nothing is changed", Due.stand(x), before);
        DUE.is("the first there", x.file(1, 0), 1);
        DUE.is("at another DESK", x.file(0, 2), 1);
        DUE.is("the second there", x.file(2, 0), 2);
        DUE.is("it waits", x.file(2, 0), -1);
        DUE.is("it waits for another one", x.file(2, 2), -1);
        x.go(1);
        DUE.is("the other one", x.desk(0, 5), 2);
        DUE.is("it holds it", x.file(1, 0), -1);
        DUE.is("it holds what that WANTS", x.file(1, 1), 2);
        DUE.is("ACTS", x.count(11), 5);
        DUE.is("no HILL", new SunDesk().file(0, 0), -1);
    }

    private static void promise13() {
        SunDesk x = Due.hill("p;p;p;dt3;r;r;sa23");
        DUE.is("it waits nowhere", x.withdraw(0), -1);
        x.file(0, 1);
        x.file(1, 0);
        x.file(2, 1);
        x.go(2);
        String before = Due.stand(x);
        DUE.is("withdraw(-1)", x.withdraw(-1), -1);
        DUE.is("withdraw(3)", x.withdraw(3), -1);
        DUE.same("nothing is changed", Due.stand(x), before);
        DUE.is("from the middle", x.withdraw(1), 0);
        DUE.is("two are left", x.desk(0, 4), 2);
        DUE.is("from ahead", x.withdraw(0), 1);
        DUE.is("the last one is the first", x.desk(0, 5), 2);
        DUE.is("it waits nowhere", x.parish(0, 4), -1);
        DUE.is("what was done is lost", x.parish(0, 5), 0);
        DUE.is("it paid nothing", x.parish(0, 7), 0);
        DUE.is("it is the last one again", x.file(0, 1), 2);
        x.go(3);
        DUE.is("not yet", x.parish(0, 3), 0);
        x.go(3);
        DUE.is("now", x.parish(0, 3), 2);
        DUE.is("it is an ACT", x.count(11), 14);
        DUE.is("no HILL", new SunDesk().withdraw(0), -1);
    }

    private static void promise14Desks() {
        SunDesk x = Due.hill("p;p;do9c11t3e7;dt2;r;rd1;sa23");
        x.file(0, 0);
        x.file(1, 1);
        DUE.is("go(9)", x.go(9), 9);
        DUE.is("closed till now", x.parish(0, 5), 0);
        DUE.is("always open", x.parish(1, 3), 2);
        DUE.is("go(2)", x.go(2), 11);
        DUE.is("two hours", x.parish(0, 5), 2);
        x.go(22);
        DUE.is("closed again, nothing is lost", x.parish(0, 5), 2);
        DUE.is("not paid", x.parish(0, 7), 0);
        x.go(1);
        DUE.is("the third hour", x.parish(0, 3), 1);
        DUE.is("paid", x.parish(0, 7), 7);
    }

    private static void promise14Dawn() {
        SunDesk x = Due.hill("sa10l11;p;pn3;p;pf1n24;pf1;d;d;d;d;r;rd1");
        for (int p = 0; p < 5; p++) {
            x.file(p, p < 3 ? 0 : 1);
        }
        x.go(10);
        DUE.is("no DAWN yet", x.count(10), 0);
        x.go(1);
        int[] light = {4, 3, 3, 6, 5};
        for (int p = 0; p < 5; p++) {
            DUE.is("light of " + p, x.parish(p, 6), light[p]);
            DUE.is("its FORM is gone", x.parish(p, 3), 0);
        }
        DUE.is("who had light", x.log(0, 0), 31);
        DUE.is("how many hours", x.log(0, 1), 21);
        x.file(2, 0);
        x.file(3, 1);
        x.go(24);
        int[] less = {0, 0, 6, 11, 0};
        for (int p = 0; p < 5; p++) {
            DUE.is("light of " + p, x.parish(p, 6), less[p]);
        }
        DUE.is("who had light", x.log(0, 0), 12);
        DUE.is("how many hours", x.log(0, 1), 17);
        SunDesk dark = Due.hill("sa1l0;p;d;r;r");
        dark.file(0, 0);
        dark.go(2);
        DUE.is("without LIGHT it has none", dark.parish(0, 6), 0);
        DUE.is("it held its FORM", dark.log(0, 0), 1);
        DUE.is("which is gone", dark.parish(0, 3), 0);
        SunDesk late = Due.hill("sa1;p;do1;r");
        late.file(0, 0);
        late.go(2);
        DUE.is("granted behind the DAWN of this HOUR", late.parish(0, 3), 1);
        DUE.is("so it had no light", late.log(0, 0), 0);
    }

    /** A HILL where parish 1 waits ahead of parish 0 for paper 2, which it gets (or not) in HOUR 30. */
    private static int worth(String rule, int more) {
        SunDesk x = Due.hill("sa7;p;pz8;do6;d;rd1;rd1;r");
        DUE.is("\"" + rule + "\" is a RULE", Due.text(x, 1, rule), 0);
        x.file(1, 0);
        x.go(1);
        x.file(1, 1);
        x.go(1);
        x.go(28);
        x.rule(0);
        x.file(1, 2);
        x.file(0, 2);
        x.go(1);
        DUE.is("paid by \"" + rule + "\"", x.parish(1, 7), 3);
        DUE.is("refused by \"" + rule + "\"", x.parish(1, 8), more == 1 ? 0 : 1);
        return x.parish(1, 3) >> 2 & 1;
    }

    private static void promise14Rules() {
        Object[] rules = {"y:1", 1, "y:0", 0, "y:0-1", 0, "y:h=6?1", 1, "y:d=1?1", 1, "y:w=2?1", 1, "y:k=1?1", 1, "y:p=1?1", 1, "y:n=2?1", 1,
            "y:z=8?1", 1, "y:h=5?1", 0, "y:h=5?1;y:2", 1, "y:h=6?0;y:2", 0, "y:h=6|d=7?1", 1, "y:d=7|h=6?1", 1, "y:h=6&d=7?1", 0,
            "y:!d=7?1", 1, "y:!d=1?1", 0, "y:!(d=7|d=1)?1", 0, "y:!d=7&h=6?1", 1, "y:d=7&d=7|h=6?1", 1, "y:h=6|d=7&d=7?1", 1,
            "y:2-3*1+1", 0, "y:2*3-5", 1, "y:1+2*3=7?1", 1, "y:7-2-5", 0, "y:[1+2]*3=9?1", 1, "y:10/4*4=8?1", 1, "y:[0-7]/2=0-3?1", 1,
            "y:1/0=0?1", 1, "y:9999*9999=1000*1000?1", 1, "y:9999*9999+1=9999*9999?1", 1, "y:0-9999*9999+1=1-9999*1000?1", 1,
            "y:0-9999*9999-5=0-1000*1000?1", 1, "y:9999*9999-1=999*1000+999?1", 1, "y:9999*9999-1>999*1000+999?1", 0, "y:h<7?1", 1, "y:h<6?1", 0, "y:h>5?1", 1, "y:h>6?1", 0,
            "y:h>5=1?1", -1, "y:[h-3]*[d+1]=w*3?1", 1, "y:k+p+n=4?1", 1, "y:h=6?0;y:h=6?1", 0, "y:h=7?0;y:h=6?1;y:0", 1, "y:z/k", 1};
        for (int i = 0; i < rules.length; i += 2) {
            if ((Integer) rules[i + 1] >= 0) {
                DUE.is("granted by \"" + rules[i] + "\"", worth((String) rules[i], (Integer) rules[i + 1]), (Integer) rules[i + 1]);
            } else {
                DUE.is("a FAULT in \"" + rules[i] + "\"", Due.fault(new SunDesk(), 1, (String) rules[i]) >= 0, true);
            }
        }
    }

    private static void promise14Bounds() {
        SunDesk x = new SunDesk();
        DUE.is("no HILL", x.go(1), -1);
        Due.text(x, 0, "p;d;r");
        x.file(0, 0);
        String before = Due.stand(x);
        DUE.is("go(0)", x.go(0), -1);
        DUE.is("go(-1)", x.go(-1), -1);
        DUE.is("go(241)", x.go(241), -1);
        DUE.is("go(2147483647)", x.go(Integer.MAX_VALUE), -1);
        DUE.same("nothing is changed", Due.stand(x), before);
        for (int i = 1; i <= 41; i++) {
            DUE.is("go(240)", x.go(240), 240 * i);
        }
        DUE.is("above 9999", x.go(160), -1);
        DUE.is("it is HOUR 9840", x.count(7), 9840);
        DUE.is("up to 9999", x.go(159), 9999);
        DUE.is("no more", x.go(1), -1);
        DUE.is("no more", x.toil(1), -1);
        DUE.is("no more", x.years(1, 1), -1);
        DUE.is("the LOG is as long as it may be", x.count(10), 60);
    }

    private static void promise15() {
        SunDesk x = Due.hill("sa6;pf2;pf2;pf3;d;dt2;r;rd1;rn0m1;rn3");
        String before = Due.stand(x);
        DUE.is("toil(0)", x.toil(0), -1);
        DUE.is("toil(49)", x.toil(49), -1);
        DUE.is("toil(-1)", x.toil(-1), -1);
        DUE.same("nothing is changed", Due.stand(x), before);
        DUE.is("toil(1)", x.toil(1), 1);
        DUE.is("parish 0 has the first PAPER of its row", x.parish(0, 3), 1);
        DUE.is("parish 1 waits for it", x.parish(1, 4), 0);
        DUE.is("there is no row in a ring", x.parish(2, 4), -1);
        DUE.is("an HOUR is one ACT", x.count(11), 1);
        x.toil(1);
        DUE.is("parish 0 waits for the next", x.parish(0, 4), 1);
        x.toil(2);
        DUE.is("parish 0 holds all", x.parish(0, 3), 7);
        x.toil(1);
        DUE.is("who holds its FORM files nothing", x.parish(0, 4), -1);
        DUE.is("parish 1 holds both", x.parish(1, 3), 3);
        x.toil(1);
        DUE.is("parish 1 holds its FORM", x.parish(1, 3), 7);
        x.toil(1);
        DUE.is("both have light", x.log(0, 0), 3);
        DUE.is("toil(48)", x.toil(48), 55);
        DUE.is("they get it again", x.log(0, 0), 3);
        DUE.is("ACTS", x.count(11), 40);
        DUE.is("no HILL", new SunDesk().toil(1), -1);
        SunDesk w = Due.hill("sa12;p;p;d;r");
        w.file(1, 0);
        w.toil(1);
        DUE.is("who waits files nothing", w.desk(0, 5), 0);
        DUE.is("one is there", w.desk(0, 4), 1);
    }

    private static long x64;

    private static int draw(int k) {
        x64 = x64 * 6364136223846793005L + 1442695040888963407L;
        return (int) ((x64 >>> 33) % k);
    }

    private static void promise16() {
        SunDesk x = Due.hill("sa5;pz0;pz9;pz5;pz3f1;d;r;rn1");
        String before = Due.stand(x);
        DUE.is("years(0, 1)", x.years(0, 1), -1);
        DUE.is("years(241, 1)", x.years(241, 1), -1);
        DUE.is("years(-1, 1)", x.years(-1, 1), -1);
        DUE.same("nothing is changed", Due.stand(x), before);
        DUE.is("no HILL", new SunDesk().years(1, 1), -1);
        for (long seed : new long[] {0, 1, -1, 77, Long.MIN_VALUE, Long.MAX_VALUE, 123456789012345L}) {
            SunDesk y = Due.hill("sa5;pz0;pz9;pz5;pz3f1;d;r;rn1");
            DUE.is("years(1, " + seed + ")", y.years(1, seed), 1);
            x64 = seed;
            int[] zeal = {0, 9, 5};
            int waiting = 0;
            for (int p = 0; p < 3; p++) {
                boolean files = draw(10) < zeal[p];
                waiting += files ? 1 : 0;
                boolean served = files && waiting == 1;
                DUE.is("parish " + p + " by " + seed, y.parish(p, 4), files && !served ? 0 : -1);
                DUE.is("parish " + p + " holds by " + seed, y.parish(p, 3), served ? 1 : 0);
            }
            DUE.is("no row in a ring", y.parish(3, 4), -1);
            DUE.is("an HOUR is one ACT", y.count(11), 1);
        }
        DUE.is("years(240, 5)", x.years(240, 5), 240);
        DUE.is("ten DAYS", x.count(10), 10);
        SunDesk one = Due.hill("sa5;pz9;pz5f1;d;r;rn1");
        SunDesk two = Due.hill("sa5;pz9;pz5f1;d;r;rn1");
        one.eclipse(50);
        two.eclipse(50);
        one.years(200, 42);
        two.years(200, 42);
        DUE.same("the same seed, the same years", Due.stand(one), Due.stand(two));
    }

    private static void promise16Eclipse() {
        int eclipses = 0;
        for (long seed = 0; seed < 60; seed++) {
            SunDesk y = Due.hill("sa0;pz9;pf1z5n9;d;r;rn1");
            y.eclipse(40);
            y.file(0, 0);
            y.go(1);
            y.go(23);
            y.years(1, seed);
            x64 = seed;
            // Parish 1 is drawn for, too, though no row is there for it; parish 0 holds its FORM.
            draw(10);
            boolean dark = draw(100) < 40;
            eclipses += dark ? 1 : 0;
            DUE.is("who had light by " + seed, y.log(0, 0), dark ? 0 : 1);
            DUE.is("hours by " + seed, y.log(0, 1), dark ? 0 : 6);
            DUE.is("light of 0 by " + seed, y.parish(0, 6), dark ? 0 : 6);
            DUE.is("its FORM by " + seed, y.parish(0, 3), dark ? 1 : 0);
            DUE.is("rows of the LOG", y.count(10), 2);
        }
        DUE.is("some of them are", eclipses > 10 && eclipses < 50, true);
        SunDesk g = Due.hill("sa1;p;d;r");
        g.eclipse(99);
        g.file(0, 0);
        g.go(2);
        DUE.is("only YEARS have eclipses", g.log(0, 0), 1);
        SunDesk n = Due.hill("sa1;p;d;r");
        n.file(0, 0);
        n.years(2, 3);
        DUE.is("none at first", n.log(0, 0), 1);
    }

    private static void promise17() {
        SunDesk x = Due.hill("sa3;p;p;dt2e3;r;rn0");
        Due.text(x, 1, "y:0");
        DUE.is("none", x.undo(), -1);
        String[] stands = new String[60];
        int acts = 0;
        stands[acts++] = Due.stand(x);
        x.file(0, 0);
        stands[acts++] = Due.stand(x);
        x.file(1, 0);
        stands[acts++] = Due.stand(x);
        for (int i = 0; i < 4; i++) {
            x.go(1);
            stands[acts++] = Due.stand(x);
        }
        x.file(0, 0);
        stands[acts++] = Due.stand(x);
        x.toil(1);
        stands[acts++] = Due.stand(x);
        x.withdraw(0);
        stands[acts++] = Due.stand(x);
        x.years(1, 9);
        DUE.is("ACTS", x.count(11), acts);
        while (acts > 0) {
            acts--;
            DUE.is("undo", x.undo(), acts);
            DUE.same("as it was behind " + acts, Due.stand(x), stands[acts]);
        }
        DUE.is("none", x.undo(), -1);
        DUE.is("no HILL", new SunDesk().undo(), -1);
    }

    private static void promise17Log() {
        SunDesk x = Due.hill("sa0;p;d;r");
        x.toil(48);
        for (int i = 0; i < 6; i++) {
            x.go(240);
        }
        DUE.is("the LOG is full", x.count(10), 60);
        DUE.is("the two earliest are gone", x.log(59, 0), 1);
        DUE.is("the latest one with light", x.log(58, 0), 0);
        SunDesk y = Due.hill("sa0;p;d;r");
        y.toil(48);
        for (int i = 0; i < 5; i++) {
            y.go(240);
        }
        y.go(191);
        DUE.is("60 rows", y.count(10), 60);
        DUE.is("the second DAY had light", y.log(58, 0), 1);
        y.go(2);
        DUE.is("it goes on", y.log(59, 0), 1);
        y.go(38);
        DUE.is("40 ACTS at most", y.count(11), 40);
        for (int i = 39; i >= 0; i--) {
            DUE.is("undo", y.undo(), i);
        }
        DUE.is("no more", y.undo(), -1);
        DUE.is("HOUR", y.count(7), 1439);
        DUE.is("60 rows", y.count(10), 60);
        DUE.is("the row that went is there again", y.log(58, 0), 1);
        DUE.is("and the one ahead of it", y.log(59, 0), 0);
    }

    private static void promise18() {
        SunDesk x = Due.hill("sa2l9;pn5;p;d;r");
        DUE.is("no row yet", x.log(0, 0), -1);
        x.file(0, 0);
        x.go(24);
        x.file(0, 0);
        x.file(1, 0);
        x.go(24);
        DUE.is("the latest", x.log(0, 0), 3);
        DUE.is("its hours", x.log(0, 1), 9);
        DUE.is("the one ahead of it", x.log(1, 0), 1);
        DUE.is("its hours", x.log(1, 1), 5);
        DUE.is("log(2, 0)", x.log(2, 0), -1);
        DUE.is("log(-1, 0)", x.log(-1, 0), -1);
        DUE.is("log(0, 2)", x.log(0, 2), -1);
        DUE.is("log(0, -1)", x.log(0, -1), -1);
    }

    private static void promise38() {
        SunDesk x = Due.hill("sa3;p;p;d;d;d;r;r;r;r");
        Due.text(x, 1, "y:1");
        Due.text(x, 1, "y:2");
        Due.text(x, 2, "h");
        Due.feed(x, "abc");
        x.rule(1);
        x.eclipse(12);
        x.see(0, 1);
        x.go(30);
        x.file(0, 0);
        int[] counts = {2, 3, 4, 2, 1, 3, 1, 30, 12, 1, 2, 31, -1000000};
        for (int what = 0; what < counts.length; what++) {
            DUE.is("count(" + what + ")", x.count(what), counts[what]);
        }
        DUE.is("count(-1)", x.count(-1), -1000000);
    }
}
