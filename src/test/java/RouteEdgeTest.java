/** The edges of what is needed, of rows that are had soonest and of what would have to be waived: promises 23 to 27. */
public final class RouteEdgeTest {
    private static final Due DUE = new Due("routes' edges");

    public static void main(String[] args) {
        needed();
        rings();
        lacksNothing();
        whatItLacks();
        thereIsNone();
        leastRow();
        leastRowBySearch();
        rowsByChance();
        askedAgain();
        openAndClose();
        goesOnWhenOpen();
        oneBehindTheOther();
        apart();
        fees();
        waived();
        waivedBySearch();
        earliest();
        DUE.close();
    }

    private static void soonest(String when, SunDesk x, int parish, int hours, int row, int fees) {
        DUE.is(when + ": HOURS of " + parish, x.soonest(parish, 0), hours);
        DUE.is(when + ": row of " + parish, x.soonest(parish, 1), row);
        DUE.is(when + ": FEES of " + parish, x.soonest(parish, 2), fees);
    }

    private static void needed() {
        DUE.says("3", "NEEDED for a PAPER: what it WANTS, what that WANTS, and so on, and itself (bits).");
        DUE.says("Promise 23", "NEEDED, as bits.");
        SunDesk alone = Due.hill("p;d;r;r;r;r;r;r;r;r");
        SunDesk chain = Due.hill("p;d;r;rn0;rn1;rn2;rn3;rn4;rn5;rn6");
        SunDesk falling = Due.hill("p;d;rm1;rm2;rm3;rm4;rm5;rm6;rm7;r");
        SunDesk round = Due.hill("p;d;rn1;rn2;rn3;rn4;rn5;rn6;rn7;rn0");
        SunDesk itself = Due.hill("p;d;rn0m0;rn1;r;r;r;r;r;rn7m8");
        for (int r = 0; r < 8; r++) {
            DUE.is("itself alone", alone.needed(r), 1 << r);
            DUE.is("all below", chain.needed(r), (1 << r + 1) - 1);
            DUE.is("all above", falling.needed(r), 255 & -1 << r);
            DUE.is("all, round", round.needed(r), 255);
            DUE.is("what WANTS itself", itself.needed(r), 1 << r);
        }
        SunDesk x = Due.hill("p;d;r;r;rn0m1;rn2;r;rn3m4");
        int[] want = {1, 2, 7, 15, 16, 63};
        for (int r = 0; r < 6; r++) {
            DUE.is("needed(" + r + ")", x.needed(r), want[r]);
        }
        x.file(0, 0);
        x.go(1);
        DUE.is("what is held is NEEDED all the same", x.needed(2), 7);
    }

    private static void rings() {
        DUE.says("3", "RING: PAPERS that are NEEDED for one of those that they WANT: that are in a ring (bits).");
        DUE.says("Promise 24", "RING, as bits.");
        Object[] hills = {"p;d;r", 0, "p;d;rn0", 1, "p;d;rm0", 1, "p;d;r;rn0", 0, "p;d;rn1;rn0", 3, "p;d;rn1;rm0", 3, "p;d;rn1;rn1", 2,
            "p;d;rn1;rn2;rn3;rn4;rn5;rn6;rn7;rn0", 255, "p;d;rn1;rn2;rn3;rn4;rn5;rn6;rn7;r", 0, "p;d;rn1;rn2;rn3;rn4;rn5;rn6;rn7;rn7", 128,
            "p;d;rn1;rn2;rn3;rn4;rn5;rn6;rn7;rn6", 192, "p;d;r;r;r;r;r;r;r;rn7", 128, "p;d;rn1m2;r;rn3;rn0", 13, "p;d;rn1m2;rn0;rn0", 7,
            "p;d;rn1;rn0;rn1m3;rn3", 11};
        for (int i = 0; i < hills.length; i += 2) {
            DUE.is("ring of " + hills[i], Due.hill((String) hills[i]).ring(), (Integer) hills[i + 1]);
        }
    }

    private static void lacksNothing() {
        DUE.says("3", "HOURS from now on till it holds the FORM, the fewest by any row (0: it does)");
        DUE.says("3", "NONE: it LACKS nothing");
        DUE.says("Promise 25", "SOONEST: HOURS (0), the row (1), FEES (2).");
        SunDesk x = Due.hill("sa23;pf1;d;r;rn0");
        soonest("it holds nothing", x, 0, 2, 1, 2);
        x.file(0, 0);
        x.go(1);
        soonest("it holds one", x, 0, 1, 1, 1);
        x.file(0, 1);
        x.go(1);
        soonest("it holds its FORM", x, 0, 0, -1, 0);
        x.go(22);
        soonest("its FORM is gone", x, 0, 1, 1, 1);
        SunDesk y = Due.hill("sa23;pf1;d;r;rn0;rn1");
        y.file(0, 0);
        y.go(1);
        y.file(0, 1);
        y.go(1);
        y.file(0, 2);
        y.go(1);
        soonest("it holds more than its FORM", y, 0, 0, -1, 0);
    }

    private static void whatItLacks() {
        DUE.says("3", "a PARISH that holds what it does now and waits nowhere gets what it LACKS (its FORM, if it does not hold it, and, of each that it "
            + "LACKS, what that WANTS and it does not hold, and so on)");
        // Its FORM went at DAWN; what the others WANTED for it is lost or not, but they are held.
        SunDesk x = Due.hill("sa4;pf2;d;r;rn0;rn1");
        for (int r = 0; r < 3; r++) {
            soonest("it lacks from " + r, x, 0, 3 - r, r == 2 ? 2 : 12, 3 - r);
            x.file(0, r);
            x.go(1);
        }
        x.go(2);
        DUE.is("it holds the others", x.parish(0, 3), 3);
        soonest("the FORM alone", x, 0, 1, 2, 1);
        // PAPER 0 is the FORM and is wanted by 1 which it holds: what it holds lacks nothing more.
        SunDesk y = Due.hill("sa2;pf0;d;r;rn0;rn1");
        y.file(0, 0);
        y.go(1);
        y.file(0, 1);
        y.go(2);
        DUE.is("it holds PAPER 1 without what that WANTED", y.parish(0, 3), 2);
        soonest("its FORM", y, 0, 1, 0, 1);
        SunDesk waits = Due.hill("sa23;p;dt3;r");
        waits.file(0, 0);
        waits.go(2);
        soonest("as if it waited nowhere", waits, 0, 3, 0, 1);
    }

    private static void thereIsNone() {
        DUE.says("3", "(There is none, if no row is so that each holds what it WANTS.)");
        for (int what = 0; what < 3; what++) {
            DUE.is("a ring of one", Due.hill("p;d;rn0").soonest(0, what), -1);
            DUE.is("a ring of two", Due.hill("p;d;rn1;rn0").soonest(0, what), -1);
            DUE.is("behind a ring", Due.hill("pf2;d;rn1;rn0;rn1").soonest(0, what), -1);
            DUE.is("far behind a ring of one", Due.hill("pf7;d;rn0;rn0;rn1;rn2;rn3;rn4;rn5;rn6").soonest(0, what), -1);
            DUE.is("one of two is behind a ring", Due.hill("pf3;d;r;rn2;rn1;rn0m2").soonest(0, what), -1);
            DUE.is("a ring that is not needed", Due.hill("pf0;d;r;rn2;rn1").soonest(0, what), what == 1 ? 0 : 1);
        }
    }

    private static void leastRow() {
        DUE.says("3", "that row as digits (of several the least, the first the highest");
        soonest("two in any order", Due.hill("pf2;d;r;r;rn0m1"), 0, 3, 12, 3);
        soonest("two in any order", Due.hill("pf0;d;rn2m1;r;r"), 0, 3, 120, 3);
        soonest("the first is the highest", Due.hill("pf0;d;rn2m1;rn2;r"), 0, 3, 210, 3);
        soonest("eight in any order but the last", Due.hill("pf7;d;r;r;rn0m1;r;r;rn3m4;rn2m5;rn6"), 0, 8, 1234567, 8);
        soonest("eight, falling", Due.hill("pf0;d;rn1;rn2;rn3;rn4;rn5;rn6;rn7;r"), 0, 8, 76543210, 8);
        soonest("eight, of several the least", Due.hill("pf0;d;rn1m2;rn3m4;rn5m6;r;r;r;rn7;r"), 0, 8, 34157620, 8);
        // First 1 is sooner: the least row is not the one that is sought.
        soonest("fewer HOURS go ahead of less digits", Due.hill("pf2;do10c12;dc2;d;r;rd1;rd2n0m1"), 0, 12, 102, 3);
        soonest("fewer HOURS by 1 first", Due.hill("pf2;do10c12;do2c4;d;r;rd1;rd2n0m1"), 0, 12, 102, 3);
        soonest("fewer HOURS by 0 first", Due.hill("pf2;do1c12;do2c4;d;r;rd1;rd2n0m1"), 0, 4, 12, 3);
        soonest("as many HOURS by both", Due.hill("pf2;d;do5c6;r;rd1;rd1n0m1"), 0, 30, 12, 3);
    }

    /** What is told of a HILL's DESKS and PAPERS, asked for once. */
    private static final class Facts {
        final int[] deskOf = new int[8];
        final int[] wants = new int[8];
        final int[][] desks = new int[4][3];

        Facts(SunDesk x) {
            for (int r = 0; r < 8; r++) {
                int n = x.paper(r, 1);
                int m = x.paper(r, 2);
                deskOf[r] = x.paper(r, 0);
                wants[r] = (n < 0 ? 0 : 1 << n) | (m < 0 ? 0 : 1 << m);
            }
            for (int d = 0; d < 4; d++) {
                for (int what = 0; what < 3; what++) {
                    desks[d][what] = x.desk(d, what);
                }
            }
        }

        /** The HOUR behind the one in which the DESK of a PAPER is done with it, hour by hour. */
        int end(int paper, int hour) {
            int[] desk = desks[deskOf[paper]];
            int end = hour;
            for (int done = 0; done < desk[2]; end++) {
                done += end % 24 >= desk[0] && end % 24 < desk[1] ? 1 : 0;
            }
            return end;
        }

        /** The HOUR at which all is held and the row (as digits) that is best, by all rows in rising order; {-1, -1} if there is none. */
        int[] best(int lacks, int held, int hour, int row) {
            if (lacks == 0) {
                return new int[] {hour, row};
            }
            int[] best = {-1, -1};
            for (int r = 0; r < 8; r++) {
                if ((lacks >> r & 1) == 1 && (wants[r] & ~held) == 0) {
                    int[] rest = best(lacks & ~(1 << r), held | 1 << r, end(r, hour), row * 10 + r);
                    best = rest[0] >= 0 && (best[0] < 0 || rest[0] < best[0]) ? rest : best;
                }
            }
            return best;
        }
    }

    private static void asBySearch(String hill, SunDesk x, int parish, int hour) {
        SunDesk apart = Due.hill(hill);
        int[] want = new Facts(apart).best(apart.needed(apart.parish(parish, 0)), 0, hour, 0);
        String when = " of " + parish + " at " + hour + " of " + hill;
        DUE.is("HOURS" + when, x.soonest(parish, 0), want[0] < 0 ? -1 : want[0] - hour);
        DUE.is("row" + when, x.soonest(parish, 1), want[1]);
    }

    /** This HILL at an HOUR of its first DAY, when nobody holds anything. */
    private static SunDesk at(String hill, int hour) {
        SunDesk x = Due.hill(hill);
        Due.pass(x, hour);
        return x;
    }

    private static void leastRowBySearch() {
        String[] hills = {"pf4;do10c12t2;dc3;do5c9t3;d;r;rd1;rd2;rd3;rn0m1", "pf4;do20c22;dc2;do1c3;do7c9t3;rd3;rd2;rd1n0;r;rn2m3",
            "pf4;do3c4;do3c5;do4c6;do2c3;r;rd1;rd2;rd3;rd3n0m1", "pf3;do8c9t2;do9c10t2;do10c11t2;r;rd1;rd2;rd1n0m2",
            "pf0;do6c18t7;do12c13;dt3;rn1m2;rd1n3;rd2n3m4;rd1;rd2", "pf4;dc1;do1c2;do2c3;do3c4;rd3;rd2;rd1;r;rn0m3", "pf0;dt5;do4c6;rn1m2;rd1;rd1n3;r",
            "pf3;do23c24;dc1;d;r;rd2n0;rd1n0;rn1m2d2", "pf3;do22c23;do23c24;d;r;rd2n0;rd1n0;rn1m2d2", "pf3;d;do1c2;do23;r;rd2n0;rd1n0;rn1m2",
            "pf5;do6c9t2;do10c15t4;do1c2;do20c21t3;r;rd1;rd2n0;rd3n1;rn0m1;rd1n2m3"};
        for (String hill : hills) {
            SunDesk x = Due.hill(hill);
            for (int hour = 0; hour < 24; hour++) {
                asBySearch(hill, x, 0, hour);
                x.go(1);
            }
        }
    }

    private static void rowsByChance() {
        Texts texts = new Texts(11);
        for (int i = 0; i < 300; i++) {
            String hill = texts.hill();
            SunDesk facts = Due.hill(hill);
            for (int p = 0; p < facts.count(0); p++) {
                if (Integer.bitCount(facts.needed(facts.parish(p, 0))) <= 5) {
                    int hour = (i * 7 + p) % 24;
                    asBySearch(hill, at(hill, hour), p, hour);
                }
            }
        }
    }

    /** The same is answered whatever was asked ahead of it. */
    private static void askedAgain() {
        String hill = "sa23;pf7;pf6;pf5;pf4;pf3;p;do6c9t2;do10c15t4;do1c2;do20c23t3;r;rd1n0;rd2n0;rd3n1;rn0m2;rd1n3;rd2n4m5;rd3n6";
        SunDesk x = Due.hill(hill);
        for (int hour = 0; hour < 26; hour++) {
            for (int p = 0; p < 6; p++) {
                SunDesk once = at(hill, hour);
                DUE.is("row of " + p + " at " + hour, x.soonest(p, 1), once.soonest(p, 1));
                DUE.is("HOURS of " + p + " at " + hour, x.soonest(p, 0), once.soonest(p, 0));
            }
            x.go(1);
        }
        for (int p = 1; p < 6; p++) {
            for (int hour = 23; hour >= 0; hour -= 11) {
                asBySearch(hill, at(hill, hour), p, hour);
            }
        }
    }

    private static void openAndClose() {
        DUE.says("3", "one PAPER behind the other, each as soon as it holds the one ahead, at DESKS as they OPEN and CLOSE");
        for (int o = 0; o < 24; o++) {
            for (int c = o + 1; c <= 24; c += c < 24 && c > o + 2 ? Math.min(24 - c, 5) : 1) {
                for (int t = 1; t <= 9; t += 4) {
                    SunDesk x = Due.hill("sa23;p;do" + o + "c" + c + "t" + t + "e3;r");
                    for (int hour = 0; hour < 25; hour++) {
                        int hours = 0;
                        for (int done = 0; done < t; hours++) {
                            int time = (hour + hours) % 24;
                            done += time >= o && time < c ? 1 : 0;
                        }
                        DUE.is("from " + hour + " at " + o + " .. " + c + " for " + t, x.soonest(0, 0), hours);
                        DUE.is("FEES", x.soonest(0, 2), 3);
                        x.go(1);
                    }
                }
            }
        }
    }

    private static void goesOnWhenOpen() {
        DUE.says("3", "(what is not done goes on when the DESK is OPEN again)");
        soonest("an hour a DAY, nine of them", Due.hill("p;do23c24t9;r"), 0, 216, 0, 1);
        soonest("an hour a DAY, nine of them", Due.hill("p;dc1t9;r"), 0, 193, 0, 1);
        soonest("two hours a DAY, nine of them", Due.hill("p;do5c7t9;r"), 0, 102, 0, 1);
        soonest("eight PAPERS by an hour a DAY", Due.hill("pf7;do23c24t9e9;r;rn0;rn1;rn2;rn3;rn4;rn5;rn6"), 0, 1728, 1234567, 72);
        SunDesk done = Due.hill("sa12;p;do23c24t9;r");
        int hours = done.soonest(0, 0);
        done.file(0, 0);
        done.go(hours - 1);
        DUE.is("not yet", done.parish(0, 3), 0);
        done.go(1);
        DUE.is("as it was told", done.parish(0, 3), 1);
    }

    private static void oneBehindTheOther() {
        // At two DESKS at once it would be sooner; but it waits at one at most.
        soonest("two DESKS", Due.hill("pf2;dt5;dt7;r;rd1;rn0m1"), 0, 17, 12, 3);
        soonest("the next begins an HOUR behind", Due.hill("pf1;dc1;do1c2;r;rd1n0"), 0, 2, 1, 2);
        soonest("it comes too late", Due.hill("pf1;dc1;dc1;r;rd1n0"), 0, 25, 1, 2);
        soonest("it comes just in time", Due.hill("pf1;dt2;dc3;r;rd1n0"), 0, 3, 1, 2);
        soonest("it comes an HOUR late", Due.hill("pf1;dt3;dc3;r;rd1n0"), 0, 25, 1, 2);
        SunDesk x = Due.hill("sa23;pf3;do2c5t2;dc4t3;do7c9;r;rd1;rd2;rn0m1d1");
        int row = x.soonest(0, 1);
        int hours = x.soonest(0, 0);
        int[] tens = {100, 10, 1};
        DUE.is("three PAPERS", x.soonest(0, 2), 3);
        for (int ten : tens) {
            DUE.is("it FILES by that row", x.file(0, row / ten % 10), 1);
            for (int i = 0; i < 60 && x.parish(0, 4) != -1; i++) {
                x.go(1);
            }
        }
        DUE.is("it holds its FORM", x.parish(0, 3), 11);
        DUE.is("behind as many HOURS", x.count(7), hours);
    }

    private static void apart() {
        DUE.says("3", "SOONEST (apart; nobody else waits, all is GRANTED, no DAWN)");
        SunDesk x = Due.hill("sa1;p;p;pf1;p;dt9;r;rn0");
        x.file(0, 0);
        x.file(1, 0);
        x.file(3, 0);
        Due.text(x, 1, "y:0");
        x.rule(0);
        soonest("nobody else waits, all is GRANTED", x, 2, 18, 1, 2);
        SunDesk dawn = Due.hill("sa1;pf1;pf0;d;r;rn0");
        soonest("no DAWN", dawn, 1, 1, 0, 1);
        soonest("no DAWN", dawn, 0, 2, 1, 2);
        SunDesk held = Due.hill("sa2;pf0;d;do4c6;r;rd1n0;rn1");
        held.file(0, 0);
        held.go(1);
        soonest("what it holds now", held, 0, 0, -1, 0);
        DUE.same("nothing is changed", Asked.difference(Asked.after(Stands::played), Asked.after(y -> {
            Stands.played(y);
            for (int p = 0; p < 4; p++) {
                y.soonest(p, 0);
                y.soonest(p, 1);
                y.waived(p);
            }
            y.earliest();
        })), "");
    }

    private static void fees() {
        DUE.says("3", "FEES of these together.");
        soonest("none", Due.hill("pf1;de0;r;rn0"), 0, 2, 1, 0);
        soonest("nine for each of eight", Due.hill("pf7;de9;r;rn0;rn1;rn2;rn3;rn4;rn5;rn6"), 0, 8, 1234567, 72);
        soonest("of each DESK", Due.hill("pf3;de1;de2;de4;de8;r;rd1n0;rd2n1;rd3n2"), 0, 4, 123, 15);
        soonest("of those that it LACKS alone", Due.hill("pf1;de1;de2;de4;r;rd1n0;rd2n1"), 0, 2, 1, 3);
    }

    private static void waived() {
        DUE.says("3", "WAIVED: the fewest PAPERS (bits; of several the least; none can be enough) that, held for nothing, let there be such a row.");
        DUE.says("Promise 26", "WAIVED, as bits.");
        Object[] hills = {"p;d;r", 0, "pf1;d;r;rn0", 0, "p;d;rn0", 1, "p;d;rn1;rn0", 1, "pf1;d;rn1;rn0", 1, "pf2;d;rn1;rn0;rn0", 1, "pf2;d;r;rn1;rn1", 2,
            "pf7;d;r;r;r;r;r;r;rn6;rn6", 64, "pf7;d;r;r;r;r;r;r;r;rn7", 128, "pf3;d;rn0;rn1;r;rn0m1", 8, "pf4;d;rn1;rn0;rn3;rn2;rn0m2", 16,
            "pf0;d;r;rn1", 0, "pf3;d;rn1;rn2;rn0;rn2", 1, "pf0;d;rn1;rn2;rn1", 1, "pf0;d;rn1m2;rn1;rn2", 1, "pf2;d;rn1;rn0;rm0n8", 1};
        for (int i = 0; i < hills.length; i += 2) {
            DUE.is("waived of " + hills[i], Due.hill((String) hills[i]).waived(0), (Integer) hills[i + 1]);
        }
        SunDesk held = Due.hill("sa9;p;pf3;d;r;rn1;rn0;rn2");
        DUE.is("none is enough", held.waived(0), 0);
        DUE.is("none is enough", held.waived(1), 0);
        held.file(0, 0);
        held.go(1);
        DUE.is("it holds its FORM", held.waived(0), 0);
    }

    /** Whether there is a row for a FORM, if these PAPERS are held for nothing. */
    private static boolean hasRow(int[] wants, int form, int held) {
        int has = held;
        for (int round = 0; round < 8; round++) {
            for (int r = 0; r < wants.length; r++) {
                has |= (wants[r] & ~has) == 0 ? 1 << r : 0;
            }
        }
        return (has >> form & 1) == 1;
    }

    private static void waivedBySearch() {
        for (int code = 0; code < 256; code++) {
            int[] n = {code & 3, code >> 2 & 3, code >> 4 & 3, code >> 6};
            StringBuilder hill = new StringBuilder("p;pf1;pf2;pf3;d");
            int[] wants = new int[4];
            for (int r = 0; r < 4; r++) {
                // Where it would WANT itself it WANTS nothing, but for PAPER 2, and 3 WANTS a second one.
                boolean none = n[r] == r && r != 2;
                hill.append(";r").append(none ? "" : "n" + n[r]).append(r == 3 ? "m0" : "");
                wants[r] = (none ? 0 : 1 << n[r]) | (r == 3 ? 1 : 0);
            }
            SunDesk x = Due.hill(hill.toString());
            for (int p = 0; p < 4; p++) {
                int best = -1;
                for (int set = 0; set < 16; set++) {
                    boolean fewer = best == -1 || Integer.bitCount(set) < Integer.bitCount(best);
                    best = fewer && hasRow(wants, p, set) ? set : best;
                }
                DUE.is("waived(" + p + ") of " + hill, x.waived(p), best);
                DUE.is("a row of " + p + " in " + hill, x.soonest(p, 0) >= 0, best == 0);
            }
        }
    }

    private static void earliest() {
        DUE.says("3", "EARLIEST: the PARISH whose SOONEST has the fewest HOURS (of several the lowest).");
        DUE.says("Promise 27", "EARLIEST.");
        DUE.is("one alone", Due.hill("p;d;r").earliest(), 0);
        DUE.is("of six alike the lowest", Due.hill("p;p;p;p;p;p;d;r").earliest(), 0);
        DUE.is("the highest", Due.hill("pf1;pf1;pf1;pf1;pf1;p;d;r;rn0").earliest(), 5);
        DUE.is("of two the lower", Due.hill("pf1;pf1;p;pf1;p;pf1;d;r;rn0").earliest(), 2);
        DUE.is("who has no row is none of them", Due.hill("pf1;pf1;pf2;d;r;rn1;rn0").earliest(), 2);
        DUE.is("none has a row", Due.hill("pf1;pf1;d;r;rn1").earliest(), -1);
        SunDesk x = Due.hill("sa23;p;p;p;d;r");
        x.file(2, 0);
        x.go(1);
        DUE.is("0 HOURS", x.earliest(), 2);
        x.file(1, 0);
        x.go(1);
        DUE.is("0 HOURS, the lower", x.earliest(), 1);
        x.go(22);
        DUE.is("all alike again", x.earliest(), 0);
        SunDesk late = Due.hill("p;pf1;do9c10;do12c24;r;rd1");
        int[] want = {0, 0, 0, 0, 0, 0, 0, 0, 0, 0, 1, 1, 1};
        for (int hour = 0; hour < want.length; hour++) {
            DUE.is("as the DESKS OPEN and CLOSE at " + hour, late.earliest(), want[hour]);
            late.go(1);
        }
    }
}
