import java.math.BigInteger;

/** The edges of TOIL, YEARS and the draws, and of what is counted: promises 15, 16 and 38. */
public final class YearsEdgeTest {
    private static final Due DUE = new Due("years' edges");

    /** The draws as the document tells them, in numbers without bounds. */
    private static final class Draws {
        private static final BigInteger ROUND = BigInteger.ONE.shiftLeft(64);
        private static final BigInteger TIMES = new BigInteger("6364136223846793005");
        private static final BigInteger AND = new BigInteger("1442695040888963407");
        private BigInteger x;

        Draws(long seed) {
            x = BigInteger.valueOf(seed).mod(ROUND);
        }

        int of(int k) {
            x = x.multiply(TIMES).add(AND).mod(ROUND);
            return x.shiftRight(33).mod(BigInteger.valueOf(k)).intValue();
        }

        /** Whether x, as a number with a sign, is below 0. */
        boolean isSigned() {
            return x.testBit(63);
        }
    }

    public static void main(String[] args) {
        toilFiles();
        toilAheadOfDawn();
        toilByNumbers();
        toilByTheHour();
        toilHours();
        belowItsZeal();
        whoIsDrawnFor();
        aDrawWithoutARow();
        belowEclipse();
        eclipseOfAll();
        aDrawAtEachDawn();
        firstOfYears();
        sixtyFourBits();
        manyDraws();
        seedsAlone();
        yearsHours();
        counts();
        DUE.close();
    }

    private static void toilFiles() {
        DUE.says("4", "each PARISH that waits nowhere and does not hold its FORM FILES the first PAPER of its SOONEST row, if there is one.");
        SunDesk x = Due.hill("sa23;pf2;pf3;pf2;pf2;p;d;d;dt9;d;r;rd1;rn0m1d3;rn3;rd2");
        x.file(2, 4);
        x.toil(1);
        int[] waits = {-1, -1, 4, 0, 0};
        for (int p = 0; p < 5; p++) {
            DUE.is("for which " + p + " waits", x.parish(p, 4), waits[p]);
        }
        DUE.is("0 was the first at DESK 0", x.parish(0, 3), 1);
        x.toil(1);
        DUE.is("the second PAPER of its row", x.parish(0, 3), 3);
        DUE.is("the next has its first one", x.parish(3, 3), 1);
        DUE.is("the last waits still", x.parish(4, 4), 0);
        x.toil(1);
        DUE.is("its FORM", x.parish(0, 3), 7);
        DUE.is("its FORM", x.parish(4, 3), 1);
        x.toil(1);
        DUE.is("who holds its FORM FILES nothing", x.parish(0, 4), -1);
        DUE.is("who holds its FORM FILES nothing", x.parish(4, 4), -1);
        DUE.is("there is no row in a ring", x.parish(1, 4), -1);
        DUE.is("who waits goes on waiting", x.parish(2, 5), 4);
    }

    private static void toilAheadOfDawn() {
        DUE.says("4", "ahead of (1) in each");
        SunDesk x = Due.hill("sa2;p;d;r");
        x.toil(2);
        DUE.is("its FORM", x.parish(0, 3), 1);
        x.toil(1);
        DUE.is("it held it ahead of DAWN: it FILES nothing", x.parish(0, 3), 0);
        DUE.is("it has light", x.parish(0, 6), 6);
        x.toil(1);
        DUE.is("an HOUR later it has it again", x.parish(0, 3), 1);
        SunDesk late = Due.hill("sa2;p;do2;r");
        late.toil(3);
        DUE.is("filed ahead of DAWN, granted behind it", late.parish(0, 3), 1);
        DUE.is("no light", late.log(0, 0), 0);
    }

    private static void toilByNumbers() {
        DUE.says("4", "by numbers");
        SunDesk x = Due.hill("sa23;p;p;p;p;p;p;dt9;r");
        x.file(4, 0);
        x.toil(1);
        int[] order = {4, 0, 1, 2, 3, 5};
        for (int p : order) {
            DUE.is("the first", x.desk(0, 5), p);
            x.withdraw(p);
        }
        for (long seed = 0; seed < 30; seed++) {
            SunDesk y = Due.hill("sa23;pz9;pz8;pz9;pz8;pz9;pz9;do20;r");
            y.years(1, seed);
            int last = -1;
            for (int left = y.desk(0, 4); left > 0; left--) {
                int first = y.desk(0, 5);
                DUE.is("rising, as they come in one HOUR", first > last, true);
                last = first;
                y.withdraw(first);
            }
            DUE.is("some came", last >= 0, true);
        }
    }

    private static void toilByTheHour() {
        // What is first in its row hangs on the time: 1 ahead of 0, as long as the DESK of 1 is OPEN.
        String hill = "sa23;pf2;do10c12;dc2;d;r;rd1;rd2n0m1";
        for (int hour = 0; hour < 14; hour++) {
            SunDesk x = Due.hill(hill);
            if (hour > 0) {
                x.go(hour);
            }
            int row = x.soonest(0, 1);
            x.toil(1);
            int first = row / 100;
            DUE.is("the first PAPER of " + row + " at " + hour, x.parish(0, 4) == first || x.parish(0, 3) == 1 << first, true);
        }
    }

    private static void toilHours() {
        DUE.says("4", "TOIL: HOURS (1 .. 48)");
        DUE.says("Promise 15", "TOIL: likewise.");
        for (int n = -1; n <= 50; n++) {
            SunDesk x = Due.hill("sa2;p;pf1;d;dt2;r;rd1n0");
            boolean may = n >= 1 && n <= 48;
            DUE.is("toil(" + n + ")", x.toil(n), may ? n : -1);
            DUE.is("HOUR", x.count(7), may ? n : 0);
            DUE.is("ACTS", x.count(11), may ? Math.min(n, 40) : 0);
            SunDesk one = Due.hill("sa2;p;pf1;d;dt2;r;rd1n0");
            for (int i = 0; i < n && may; i++) {
                one.toil(1);
            }
            DUE.same("HOUR by HOUR it is the same", Due.stand(one), Due.stand(x));
        }
    }

    private static void belowItsZeal() {
        DUE.says("Terms", "z ZEAL (0 .. 9; 5)");
        DUE.says("4", "for each such PARISH a draw of 10: below its ZEAL: it FILES so, if there is one");
        int[] seen = new int[10];
        for (long seed = 0; seed < 200; seed++) {
            int drawn = new Draws(seed).of(10);
            seen[drawn]++;
            for (int zeal = Math.max(drawn - 1, 0); zeal <= Math.min(drawn + 1, 9); zeal++) {
                SunDesk x = Due.hill("sa23;pz" + zeal + ";dt9;r");
                x.years(1, seed);
                DUE.is("draw " + drawn + " by ZEAL " + zeal, x.parish(0, 4), drawn < zeal ? 0 : -1);
            }
            SunDesk none = Due.hill("sa23;pz0;dt9;r");
            none.years(1, seed);
            DUE.is("never by ZEAL 0", none.parish(0, 4), -1);
            SunDesk untold = Due.hill("sa23;p;dt9;r");
            untold.years(1, seed);
            DUE.is("ZEAL 5 untold", untold.parish(0, 4), drawn < 5 ? 0 : -1);
        }
        for (int v = 0; v < 10; v++) {
            DUE.is("draws of " + v, seen[v] > 5, true);
        }
    }

    private static void whoIsDrawnFor() {
        // 0 holds its FORM, 1 waits, 2 waits at another DESK: none of these is drawn for, so that 3 has the first draw.
        for (long seed = 0; seed < 100; seed++) {
            SunDesk x = Due.hill("sa23;pz9;pz9;pz9;pz5;pz5;d;dt9;r;rd1");
            x.file(0, 0);
            x.go(1);
            x.file(1, 1);
            x.file(2, 1);
            x.years(1, seed);
            Draws draws = new Draws(seed);
            boolean third = draws.of(10) < 5;
            boolean fourth = draws.of(10) < 5;
            DUE.is("3 by " + seed, x.parish(3, 3), third ? 1 : 0);
            DUE.is("4 by " + seed, x.parish(4, 3), fourth && !third ? 1 : 0);
            DUE.is("4 by " + seed, x.parish(4, 4), fourth && third ? 0 : -1);
            DUE.is("0 FILES nothing", x.parish(0, 4), -1);
            DUE.is("two at the other DESK", x.desk(1, 4), 2);
        }
    }

    private static void aDrawWithoutARow() {
        for (long seed = 0; seed < 100; seed++) {
            SunDesk x = Due.hill("sa23;pz9f1;pz5;dt9;r;rn1");
            x.years(1, seed);
            Draws draws = new Draws(seed);
            draws.of(10);
            DUE.is("0 has no row", x.parish(0, 4), -1);
            DUE.is("1 has the second draw by " + seed, x.parish(1, 4), draws.of(10) < 5 ? 0 : -1);
        }
    }

    /** At DAWN, where PARISH 0 holds its FORM, so that the first draw is the one of 100. */
    private static SunDesk atDawn(int eclipse, long seed) {
        SunDesk x = Due.hill("sa1;p;d;r");
        if (eclipse > 0) {
            x.eclipse(eclipse);
        }
        x.file(0, 0);
        x.go(1);
        x.years(1, seed);
        return x;
    }

    private static void belowEclipse() {
        DUE.says("4", "then at DAWN a draw of 100: below ECLIPSE (0 .. 99; 0 at first): nobody has light, FORMS are held on (the LOG has a row of 0, 0).");
        boolean[] seen = new boolean[100];
        for (long seed = 0; seed < 900; seed++) {
            int drawn = new Draws(seed).of(100);
            seen[drawn] = true;
            for (int eclipse : new int[] {0, Math.max(drawn - 1, 0), drawn, Math.min(drawn + 1, 99), 99}) {
                SunDesk x = atDawn(eclipse, seed);
                boolean dark = drawn < eclipse;
                String by = " by draw " + drawn + " and ECLIPSE " + eclipse;
                DUE.is("light" + by, x.parish(0, 6), dark ? 0 : 6);
                DUE.is("its FORM" + by, x.parish(0, 3), dark ? 1 : 0);
                DUE.is("rows" + by, x.count(10), 1);
                DUE.is("who had light" + by, x.log(0, 0), dark ? 0 : 1);
                DUE.is("how many hours" + by, x.log(0, 1), dark ? 0 : 6);
            }
        }
        DUE.is("a draw of 0", seen[0], true);
        DUE.is("a draw of 98", seen[98], true);
        DUE.is("a draw of 99", seen[99], true);
    }

    private static void eclipseOfAll() {
        long seed = 0;
        while (new Draws(seed).of(100) != 98) {
            seed++;
        }
        SunDesk x = Due.hill("sa6;p;pf1;p;pf1;p;p;d;r;r;r");
        x.eclipse(99);
        for (int p = 0; p < 6; p++) {
            x.file(p, x.parish(p, 0));
        }
        x.go(6);
        x.years(1, seed);
        for (int p = 0; p < 6; p++) {
            DUE.is("nobody has light: " + p, x.parish(p, 6), 0);
            DUE.is("FORMS are held on: " + p, x.parish(p, 3), p % 2 == 1 && p < 4 ? 2 : 1);
        }
        DUE.is("a row of 0", x.log(0, 0), 0);
        DUE.is("a row of 0, 0", x.log(0, 1), 0);
        x.go(24);
        DUE.is("all have light a DAY later: go has no ECLIPSE", x.log(0, 0), 63);
        x.undo();
        SunDesk lit = Due.hill("sa1;p;d;r");
        lit.eclipse(99);
        lit.file(0, 0);
        lit.go(25);
        DUE.is("light", lit.parish(0, 6), 6);
        lit.file(0, 0);
        lit.years(1, seed);
        DUE.is("an ECLIPSE at DAWN: the light of the DAY ahead is gone", lit.parish(0, 6), 0);
        SunDesk toiled = Due.hill("sa1;p;d;r");
        toiled.eclipse(99);
        toiled.toil(48);
        DUE.is("TOIL has no ECLIPSE", toiled.works(2, 1), 12);
    }

    private static void aDrawAtEachDawn() {
        // All hold their FORMS in the first HOUR; the draw of 100 comes ahead of those of the next HOUR, even by ECLIPSE 0.
        for (int eclipse = 0; eclipse <= 40; eclipse += 40) {
            for (long seed = 0; seed < 120; seed++) {
                SunDesk x = Due.hill("sa1;pz5;dt1;dt9;r;rd1");
                if (eclipse > 0) {
                    x.eclipse(eclipse);
                }
                x.file(0, 0);
                x.go(1);
                x.years(2, seed);
                Draws draws = new Draws(seed);
                boolean dark = draws.of(100) < eclipse;
                boolean files = !dark && draws.of(10) < 5;
                DUE.is("held by " + seed, x.parish(0, 3), dark || files ? 1 : 0);
                DUE.is("LOG", x.log(0, 0), dark ? 0 : 1);
                DUE.is("PAID", x.parish(0, 7), files ? 2 : 1);
            }
        }
    }

    private static void firstOfYears() {
        DUE.says("4", "YEARS: HOURS (1 .. 240) by a seed: ahead of (1), by numbers");
        // At DAWN: first draws of 10 for those who lack their FORMS, then the one of 100.
        for (long seed = 0; seed < 120; seed++) {
            SunDesk x = Due.hill("sa1;p;pz5;pz5;d;dt9;r;rd1");
            x.eclipse(50);
            x.file(0, 0);
            x.go(1);
            x.years(1, seed);
            Draws draws = new Draws(seed);
            boolean first = draws.of(10) < 5;
            boolean second = draws.of(10) < 5;
            boolean dark = draws.of(100) < 50;
            DUE.is("LOG by " + seed, x.log(0, 0), dark ? 0 : 1);
            DUE.is("1 by " + seed, x.parish(1, 3), first ? 1 : 0);
            DUE.is("2 by " + seed, x.parish(2, 3) + x.desk(0, 4), second ? 1 : 0);
        }
    }

    private static void sixtyFourBits() {
        DUE.says("4", "x, at first the seed, becomes x times 6364136223846793005 and 1442695040888963407 (64 bits, going round); "
            + "a draw of k: (x shifted right by 33, without sign) modulo k.");
        long[] seeds = {0, 1, 2, -1, -2, Long.MAX_VALUE, Long.MIN_VALUE, Long.MAX_VALUE - 1, Long.MIN_VALUE + 1, 1L << 32, 1L << 33, 1L << 62, -1L << 62,
            Integer.MAX_VALUE, Integer.MIN_VALUE, 1L + Integer.MAX_VALUE, 0xFFFFFFFFL, -6364136223846793005L, 6364136223846793005L, -1442695040888963407L,
            8589934591L, 8589934592L, 1000000007L * 998244353L};
        int signed = 0;
        for (long seed : seeds) {
            Draws draws = new Draws(seed);
            int drawn = draws.of(100);
            signed += draws.isSigned() ? 1 : 0;
            int ten = new Draws(seed).of(10);
            for (int eclipse = Math.max(drawn, 1); eclipse <= Math.min(drawn + 1, 99); eclipse++) {
                DUE.is("seed " + seed + " by ECLIPSE " + eclipse, atDawn(eclipse, seed).log(0, 0), drawn < eclipse ? 0 : 1);
            }
            for (int zeal = ten; zeal <= Math.min(ten + 1, 9); zeal++) {
                SunDesk x = Due.hill("sa23;pz" + zeal + ";dt9;r");
                DUE.is("years(1, " + seed + ")", x.years(1, seed), 1);
                DUE.is("seed " + seed + " by ZEAL " + zeal, x.parish(0, 4), ten < zeal ? 0 : -1);
            }
        }
        DUE.is("some have the highest bit, some have not", signed > 4 && signed < seeds.length - 4, true);
    }

    private static void manyDraws() {
        // The DESK is closed, so that who FILES waits; a draw of 100 at HOUR 4.
        for (long seed = -40; seed < 40; seed++) {
            long wide = seed * 0x123456789ABCDEFL;
            SunDesk x = Due.hill("sa4;pz1;pz1;pz2;pz1;pz2;pz1;do23;r");
            int[] zeal = {1, 1, 2, 1, 2, 1};
            boolean[] waits = new boolean[6];
            Draws draws = new Draws(wide);
            for (int hour = 0; hour < 12; hour++) {
                for (int p = 0; p < 6; p++) {
                    waits[p] |= !waits[p] && draws.of(10) < zeal[p];
                }
                if (hour == 4) {
                    draws.of(100);
                }
            }
            x.years(12, wide);
            for (int p = 0; p < 6; p++) {
                DUE.is(p + " by " + wide, x.parish(p, 4), waits[p] ? 0 : -1);
            }
        }
    }

    private static void seedsAlone() {
        for (long seed : new long[] {3, -77, 1L << 40}) {
            SunDesk x = Due.hill("sa4;pz5;pz5;pf1z5;d;do9c11;r;rn0d1");
            SunDesk y = Due.hill("sa4;pz5;pz5;pf1z5;d;do9c11;r;rn0d1");
            y.years(7, seed + 1);
            for (int i = 0; i < 7; i++) {
                y.undo();
            }
            x.years(60, seed);
            y.years(60, seed);
            DUE.same("by the seed alone", Due.stand(y), Due.stand(x));
            SunDesk z = Due.hill("sa4;pz0;pz0;pf1z0;d;do9c11;r;rn0d1");
            SunDesk w = Due.hill("sa4;pz0;pz0;pf1z0;d;do9c11;r;rn0d1");
            z.years(60, seed);
            w.go(60);
            DUE.same("without ZEAL and ECLIPSE HOURS alone", Due.stand(z), Due.stand(w));
        }
    }

    private static void yearsHours() {
        DUE.says("Promise 16", "YEARS: likewise.");
        for (int n : new int[] {-1, 0, 1, 2, 39, 40, 41, 48, 49, 239, 240, 241, 242}) {
            SunDesk x = Due.hill("sa2;pz9;d;r");
            boolean may = n >= 1 && n <= 240;
            DUE.is("years(" + n + ", 1)", x.years(n, 1), may ? n : -1);
            DUE.is("HOUR", x.count(7), may ? n : 0);
            DUE.is("ACTS", x.count(11), may ? Math.min(n, 40) : 0);
            DUE.is("rows", x.count(10), may ? (n + 21) / 24 : 0);
        }
        SunDesk x = Due.hill("p;d;r");
        Due.pass(x, 9840);
        DUE.is("above 9999", x.years(160, 1), -1);
        DUE.is("above 9999", x.go(160), -1);
        DUE.is("up to 9960", x.years(120, 1), 9960);
        DUE.is("above 9999", x.toil(40), -1);
        DUE.is("up to 9998", x.toil(38), 9998);
        DUE.is("up to 9999", x.years(1, 1), 9999);
        DUE.is("no more", x.years(1, 1), -1);
        x.undo();
        DUE.is("up to 9999", x.toil(1), 9999);
        DUE.is("no more", x.toil(1), -1);
    }

    private static void counts() {
        DUE.says("Promise 38", "0 PARISHES, 1 DESKS, 2 PAPERS, 3 RULES, 4 ORDERS, 5 bytes of the TAPE, 6 the RULE that holds (NONE), 7 the HOUR, 8 ECLIPSE, "
            + "9 SEEN, 10 how long the LOG is, 11 ACTS that can be UNDONE.");
        SunDesk nothing = new SunDesk();
        SunDesk texts = new SunDesk();
        Stands.textsAlone(texts);
        SunDesk played = new SunDesk();
        Stands.played(played);
        SunDesk full = new SunDesk();
        Stands.full(full);
        SunDesk back = new SunDesk();
        Stands.broughtBack(back);
        int[][] want = {{0, 0, 0, 0, 0, 0, -1, 0, 0, 0, 0, 0}, {0, 0, 0, 2, 2, 3, 1, 0, 30, 0, 0, 0}, {4, 2, 6, 2, 2, 7, 1, 10, 30, 2, 1, 15},
            {6, 4, 8, 4, 4, 240, 3, 9999, 99, 12, 60, 40}, {4, 2, 6, 2, 2, 7, 1, 3, 30, 2, 0, 0}};
        SunDesk[] all = {nothing, texts, played, full, back};
        for (int i = 0; i < all.length; i++) {
            for (int what = 0; what < 12; what++) {
                DUE.is("count(" + what + ") of " + i, all[i].count(what), want[i][what]);
            }
            DUE.is("count(12)", all[i].count(12), -1000000);
            DUE.is("count(-1)", all[i].count(-1), -1000000);
        }
    }
}
