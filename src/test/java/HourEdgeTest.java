/** The edges of filing and of an HOUR, sentence by sentence of "==== 2.". */
public final class HourEdgeTest {
    private static final Due DUE = new Due("hours' edges");

    public static void main(String[] args) {
        holdsNoneAtFirst();
        waitsAtOneDesk();
        filesWhatItMay();
        lastAtTheDesk();
        whatWasDoneIsLost();
        timeAndDay();
        lightByM();
        lightByForms();
        noMoreThanItNeeds();
        formIsNotHeldAnyMore();
        allOthersHaveNone();
        dawnAheadOfDesks();
        sixtyDays();
        whoHadLight();
        openHours();
        firstOneThere();
        takes();
        fees();
        letters();
        wanted();
        theHour();
        facts();
        DUE.close();
    }

    private static void holdsNoneAtFirst() {
        DUE.says("2", "A PARISH holds PAPERS (none at first), and waits at one DESK at most.");
        SunDesk x = Due.hill("p;p;p;p;p;p;d;r;r;r;r;r;r;r;r");
        for (int p = 0; p < 6; p++) {
            int[] want = {0, -1, 0, 0, 0, 0};
            for (int what = 3; what <= 8; what++) {
                DUE.is("parish(" + p + ", " + what + ")", x.parish(p, what), want[what - 3]);
            }
        }
        for (int r = 0; r < 8; r++) {
            DUE.is("file(0, " + r + ")", x.file(0, r), 1);
            x.go(1);
            // At HOUR 6 its FORM, PAPER 0, goes.
            DUE.is("it holds", x.parish(0, 3), (1 << r + 1) - 1 - (r >= 6 ? 1 : 0));
        }
    }

    private static void waitsAtOneDesk() {
        SunDesk x = Due.hill("sa23;p;d;d;d;d;r;rd1;rd2;rd3");
        for (int d = 0; d < 4; d++) {
            DUE.is("it may wait at DESK " + d, x.file(0, d), 1);
            for (int other = 0; other < 4; other++) {
                DUE.is("at one at most", x.file(0, other), -1);
                DUE.is("BACKLOG", x.desk(other, 4), other == d ? 1 : 0);
                DUE.is("the first", x.desk(other, 5), other == d ? 0 : -1);
            }
            DUE.is("it goes away", x.withdraw(0), d);
        }
    }

    private static void filesWhatItMay() {
        DUE.says("2", "FILES: it waits nowhere, does not hold that PAPER and holds what that WANTS: it is the last at the DESK of that PAPER.");
        SunDesk x = Due.hill("sa23;pf7;d;r;r;rn0;rm0;rn0m1;rn1m1;rn6;rn8m8");
        int[] wants = {0, 0, 1, 1, 3, 2, 64, 0};
        int held = 0;
        int[] gets = {7, 1, 5, 0, 2, 4};
        for (int got : gets) {
            for (int r = 0; r < 8; r++) {
                boolean may = (held >> r & 1) == 0 && (wants[r] & ~held) == 0;
                DUE.is("file(0, " + r + ") that holds " + held, x.file(0, r), may ? 1 : -1);
                if (may) {
                    DUE.is("it waits: file(0, 7)", x.file(0, 7), -1);
                    DUE.is("it waits: file(0, 0)", x.file(0, 0), -1);
                    x.withdraw(0);
                }
            }
            x.file(0, got);
            x.go(1);
            held |= 1 << got;
            DUE.is("it holds", x.parish(0, 3), held);
        }
    }

    private static void lastAtTheDesk() {
        DUE.says("Promise 12", "FILES: how many are there then.");
        SunDesk x = Due.hill("sa23;p;p;p;p;p;p;dt9;dt9;r;r;rd1");
        int[] order = {3, 0, 5, 1, 4, 2};
        for (int i = 0; i < 6; i++) {
            DUE.is("the one that comes as number " + i, x.file(order[i], i % 2), i + 1);
            DUE.is("the first stays", x.desk(0, 5), 3);
        }
        for (int i = 0; i < 6; i++) {
            DUE.is("the first", x.desk(0, 5), order[i]);
            DUE.is("BACKLOG", x.desk(0, 4), 6 - i);
            DUE.is("it goes away", x.withdraw(order[i]), i % 2);
        }
        DUE.is("nobody", x.desk(0, 5), -1);
        DUE.is("BACKLOG", x.desk(0, 4), 0);
        x.file(0, 0);
        x.file(1, 2);
        DUE.is("at the other DESK", x.file(2, 2), 2);
        x.file(3, 0);
        x.withdraw(0);
        DUE.is("who comes again is the last", x.file(0, 0), 2);
        DUE.is("the first", x.desk(0, 5), 3);
        DUE.is("the first of the other", x.desk(1, 5), 1);
    }

    private static void whatWasDoneIsLost() {
        DUE.says("2", "WITHDRAWS: it goes away (what was done for it is lost).");
        DUE.says("Promise 13", "WITHDRAWS: the PAPER for which it waited.");
        for (int done = 0; done < 9; done++) {
            SunDesk x = Due.hill("sa23;p;p;dt9e3;r;r;r");
            x.file(0, 2);
            x.file(1, 1);
            if (done > 0) {
                x.go(done);
            }
            DUE.is("done", x.parish(0, 5), done);
            DUE.is("withdraw", x.withdraw(0), 2);
            DUE.is("lost", x.parish(0, 5), 0);
            DUE.is("it waits nowhere", x.parish(0, 4), -1);
            DUE.is("nothing is paid", x.parish(0, 7), 0);
            DUE.is("the next is the first", x.desk(0, 5), 1);
            x.withdraw(1);
            x.file(0, 2);
            DUE.is("it begins anew", x.parish(0, 5), 0);
            x.go(8);
            DUE.is("eight hours", x.parish(0, 5), 8);
            DUE.is("not yet", x.parish(0, 3), 0);
            x.go(1);
            DUE.is("nine hours", x.parish(0, 3), 4);
        }
    }

    /** A HILL at this HOUR, where the RULE that holds grants (or not) what is filed. */
    private static boolean grantsAt(int hour, String rule) {
        SunDesk x = Due.hill("sa23;p;d;r");
        Due.text(x, 1, rule);
        x.rule(0);
        Due.pass(x, hour);
        x.file(0, 0);
        DUE.is("HOUR", x.go(1), hour + 1);
        return x.parish(0, 3) == 1;
    }

    private static void timeAndDay() {
        DUE.says("2", "An HOUR (its time: the HOUR modulo 24; the DAY: the HOUR by 24, cut)");
        for (int hour : new int[] {0, 1, 22, 24, 25, 46, 48, 239, 240, 241, 9983, 9984, 9997, 9998}) {
            int time = hour % 24;
            int day = hour / 24;
            if (time != 23) {
                DUE.is("h at " + hour, grantsAt(hour, "y:h=" + time + "?1"), true);
                DUE.is("d at " + hour, grantsAt(hour, "y:d=" + day + "?1"), true);
                DUE.is("more at " + hour, grantsAt(hour, "y:h>" + time + "|d>" + day + "|h<" + time + "|d<" + day + "?1"), false);
            }
        }
        DUE.is("the last hour of a DAY", grantsAt(23, "y:h=23&d=0?1"), true);
        DUE.is("the last hour of a DAY", grantsAt(9983, "y:h=23&d=415?1"), true);
        DUE.is("the last HOUR of all", grantsAt(9998, "y:h=14&d=416?1"), true);
        for (int dawn = 0; dawn < 24; dawn++) {
            SunDesk x = Due.hill("sa" + dawn + ";p;d;r");
            for (int hour = 0; hour < 50; hour++) {
                DUE.is("DAWNS up to HOUR " + hour, x.count(10), (hour + 23 - dawn) / 24);
                x.go(1);
            }
        }
    }

    private static void lightByM() {
        DUE.says("2", "(1) at DAWN: who holds its FORM has light: of those with the same FORM, m, each LIGHT by m, cut, and the lowest ones 1 more each, "
            + "as far as that leaves some over");
        for (int light = 0; light <= 24; light++) {
            for (int set = 0; set < 64; set++) {
                SunDesk x = Due.hill("sa10l" + light + ";pn24;pn24;pn24;pn24;pn24;pn24;d;d;d;d;r");
                for (int p = 0; p < 6; p++) {
                    if ((set >> p & 1) == 1) {
                        x.file(p, 0);
                    }
                }
                x.go(10);
                DUE.is("nothing ahead of DAWN", x.parish(5, 6) + x.count(10), 0);
                x.go(1);
                // As if the hours were dealt out one by one, the lowest first.
                int[] dealt = new int[6];
                for (int hour = 0, p = 5; hour < light && set != 0; hour++) {
                    do {
                        p = (p + 1) % 6;
                    } while ((set >> p & 1) == 0);
                    dealt[p]++;
                }
                for (int p = 0; p < 6; p++) {
                    DUE.is("light of " + p + " in " + set + " by " + light, x.parish(p, 6), dealt[p]);
                }
                DUE.is("who had light", x.log(0, 0), set);
                DUE.is("how many hours", x.log(0, 1), set == 0 ? 0 : light);
            }
        }
    }

    private static void lightByForms() {
        SunDesk x = Due.hill("sa9l11;pn24f1;pn24;pn24f1;pn24;pn24f1;pn24f2;d;d;d;r;rd1;rd2");
        for (int p = 0; p < 6; p++) {
            x.file(p, x.parish(p, 0));
        }
        x.go(10);
        int[] want = {4, 6, 4, 5, 3, 11};
        for (int p = 0; p < 6; p++) {
            DUE.is("light of " + p, x.parish(p, 6), want[p]);
        }
        DUE.is("who had light", x.log(0, 0), 63);
        DUE.is("LIGHT for each FORM", x.log(0, 1), 33);
        SunDesk all = Due.hill("sa9l24;pn24;pn24f1;pn24f2;pn24f3;pn24f4;pn24f5;d;r;r;r;r;r;r");
        for (int p = 0; p < 6; p++) {
            all.file(p, p);
        }
        all.go(10);
        DUE.is("the most hours that may be", all.log(0, 1), 144);
        for (int p = 0; p < 6; p++) {
            DUE.is("light of " + p, all.parish(p, 6), 24);
        }
    }

    private static void noMoreThanItNeeds() {
        DUE.says("2", "but no more than it NEEDS");
        for (int light = 0; light <= 24; light++) {
            for (int needs = 1; needs <= 24; needs++) {
                SunDesk x = Due.hill("sa1l" + light + ";pn" + needs + ";d;r");
                x.file(0, 0);
                x.go(2);
                DUE.is("light by " + light + " for who NEEDS " + needs, x.parish(0, 6), Math.min(light, needs));
                DUE.is("hours of all", x.log(0, 1), Math.min(light, needs));
            }
        }
        SunDesk x = Due.hill("sa5l11;pn3;pn4;pn24;d;r");
        for (int p = 0; p < 3; p++) {
            x.file(p, 0);
        }
        x.go(6);
        int[] want = {3, 4, 3};
        for (int p = 0; p < 3; p++) {
            DUE.is("what one does not need no other one has: " + p, x.parish(p, 6), want[p]);
        }
        DUE.is("hours of all", x.log(0, 1), 10);
    }

    private static void formIsNotHeldAnyMore() {
        DUE.says("2", "that FORM is not held any more.");
        SunDesk x = Due.hill("sa6l0;pf2;pf0;d;d;r;rd1;r");
        x.file(0, 0);
        x.go(1);
        x.file(0, 1);
        x.file(1, 1);
        x.go(1);
        x.file(0, 2);
        x.go(2);
        DUE.is("0 holds all", x.parish(0, 3), 7);
        DUE.is("1 holds no FORM", x.parish(1, 3), 2);
        x.go(2);
        DUE.is("ahead of DAWN", x.parish(0, 3), 7);
        x.go(1);
        DUE.is("the FORM is gone, the others stay, even without LIGHT", x.parish(0, 3), 3);
        DUE.is("what is no FORM of it stays", x.parish(1, 3), 2);
        DUE.is("it may FILE it again", x.file(0, 2), 1);
        SunDesk w = Due.hill("sa2;p;d;dt9;r;rd1n0");
        w.file(0, 0);
        w.go(1);
        w.file(0, 1);
        w.go(9);
        DUE.is("who waits for what WANTS it is not sent away", w.parish(0, 3), 2);
    }

    private static void allOthersHaveNone() {
        DUE.says("2", "All others have none.");
        DUE.says("Promise 7", "6 light at the latest DAWN");
        SunDesk x = Due.hill("sa3;pn5;p;d;r");
        x.file(0, 0);
        x.go(3);
        DUE.is("none yet", x.parish(0, 6), 0);
        x.go(1);
        DUE.is("at the latest DAWN", x.parish(0, 6), 5);
        DUE.is("the other one", x.parish(1, 6), 0);
        x.go(23);
        DUE.is("still the latest one", x.parish(0, 6), 5);
        x.file(1, 0);
        x.go(1);
        DUE.is("none now: what is granted in the HOUR of DAWN comes too late", x.parish(0, 6) + x.parish(1, 6), 0);
        x.go(24);
        DUE.is("a DAY later", x.parish(1, 6), 6);
        DUE.is("none", x.parish(0, 6), 0);
    }

    private static void dawnAheadOfDesks() {
        SunDesk x = Due.hill("sa5;p;do4;d;r;rd1");
        x.file(0, 0);
        x.go(5);
        DUE.is("granted in the HOUR ahead of DAWN", x.parish(0, 3), 1);
        x.go(1);
        DUE.is("it has light", x.log(0, 0), 1);
        SunDesk y = Due.hill("sa5;p;do5;r");
        y.file(0, 0);
        y.go(6);
        DUE.is("granted in the HOUR of DAWN, behind it", y.parish(0, 3), 1);
        DUE.is("it has no light", y.log(0, 0), 0);
        y.go(24);
        DUE.is("but at the next DAWN", y.log(0, 0), 1);
        DUE.is("so it is gone", y.parish(0, 3), 0);
    }

    private static void sixtyDays() {
        DUE.says("2", "The LOG (60 DAYS at most, the latest)");
        DUE.says("Promise 18", "LOG, the latest (i 0), the one ahead of it (1) ..: 0 who had light (bits), 1 how many hours.");
        SunDesk x = Due.hill("sa0;pn7;pn4;d;r");
        // PARISH 0 has light at the DAWNS of DAYS 1 and 2 alone.
        x.file(0, 0);
        x.go(25);
        x.file(0, 0);
        x.go(23);
        DUE.is("rows", x.count(10), 2);
        x.go(1);
        DUE.is("rows", x.count(10), 3);
        Due.pass(x, 1344);
        int day = 57;
        while (day < 64) {
            day++;
            DUE.is("rows of " + day + " DAYS", x.count(10), Math.min(day + 1, 60));
            int first = Math.min(day, 59);
            DUE.is("the earliest of " + day, x.log(first, 1), day - first == 1 || day - first == 2 ? 7 : 0);
            DUE.is("who had light", x.log(first, 0), day - first == 1 || day - first == 2 ? 1 : 0);
            DUE.is("none ahead of it", x.log(first + 1, 0), -1);
            DUE.is("none ahead of it", x.log(60, 1), -1);
            DUE.is("works finds the earliest with light", x.works(1, 0), day <= 59 ? 1 : 0);
            DUE.is("works knows what is in the LOG alone", x.works(1, 1), day <= 61 ? 7 : 0);
            x.go(24);
        }
    }

    private static void whoHadLight() {
        DUE.says("2", "who had light (bits; whoever held its FORM), how many hours all had.");
        for (int set = 0; set < 64; set++) {
            SunDesk dark = Due.hill("sa8l0;p;p;p;p;p;p;d;r");
            SunDesk poor = Due.hill("sa8l1;p;p;p;p;p;p;d;r");
            for (int p = 0; p < 6; p++) {
                if ((set >> p & 1) == 1) {
                    dark.file(p, 0);
                    poor.file(p, 0);
                }
            }
            dark.go(9);
            poor.go(9);
            DUE.is("whoever held it, without LIGHT", dark.log(0, 0), set);
            DUE.is("no hours", dark.log(0, 1), 0);
            DUE.is("whoever held it, with one hour", poor.log(0, 0), set);
            DUE.is("one hour", poor.log(0, 1), set == 0 ? 0 : 1);
        }
    }

    private static void openHours() {
        DUE.says("2", "(2) Each DESK that is OPEN (its time OPENS or later, ahead of CLOSES) does an hour for the first one there");
        DUE.says("Promise 8", "6 whether it is OPEN in this HOUR (1, 0)");
        for (int o = 0; o <= 23; o++) {
            for (int c = o + 1; c <= 24; c++) {
                SunDesk x = Due.hill("sa0;p;do" + o + "c" + c + "t9;r");
                x.file(0, 0);
                int done = 0;
                for (int hour = 0; hour < 30; hour++) {
                    boolean open = hour % 24 >= o && hour % 24 < c;
                    DUE.is("open " + o + " to " + c + " in HOUR " + hour, x.desk(0, 6), open ? 1 : 0);
                    done += open ? 1 : 0;
                    x.go(1);
                    DUE.is("done " + o + " to " + c + " up to HOUR " + hour, x.parish(0, 5), done < 9 ? done : 0);
                    // What is GRANTED on the first DAY goes at DAWN.
                    boolean gone = c - o >= 9 && hour >= 24;
                    DUE.is("held", x.parish(0, 3), done < 9 || gone ? 0 : 1);
                }
            }
        }
    }

    private static void firstOneThere() {
        SunDesk x = Due.hill("sa23;p;p;p;p;dt2;d;r;rd1");
        x.file(1, 0);
        x.file(0, 0);
        x.file(3, 1);
        x.file(2, 1);
        int[][] held = {{0, 0, 0, 2}, {0, 1, 2, 2}, {0, 1, 2, 2}, {1, 1, 2, 2}};
        int[][] done = {{0, 1, 0, 0}, {0, 0, 0, 0}, {1, 0, 0, 0}, {0, 0, 0, 0}};
        for (int hour = 0; hour < 4; hour++) {
            x.go(1);
            for (int p = 0; p < 4; p++) {
                DUE.is("held by " + p + " behind HOUR " + hour, x.parish(p, 3), held[hour][p]);
                DUE.is("done for " + p + " behind HOUR " + hour, x.parish(p, 5), done[hour][p]);
            }
        }
    }

    private static void takes() {
        DUE.says("2", "TAKES hours done for it: it goes away and pays the FEE, and the PAPER is GRANTED (it holds it)");
        DUE.says("Promise 7", "5 hours done for it");
        for (int t = 1; t <= 9; t++) {
            SunDesk x = Due.hill("sa23;p;p;dt" + t + "e2;r");
            x.file(0, 0);
            x.file(1, 0);
            for (int hour = 1; hour <= t; hour++) {
                DUE.is("it waits", x.parish(0, 4), 0);
                DUE.is("hours done", x.parish(0, 5), hour - 1);
                DUE.is("it holds nothing", x.parish(0, 3), 0);
                DUE.is("it paid nothing", x.parish(0, 7), 0);
                DUE.is("BACKLOG", x.desk(0, 4), 2);
                x.go(1);
            }
            DUE.is("it went away", x.parish(0, 4), -1);
            DUE.is("hours done", x.parish(0, 5), 0);
            DUE.is("it holds it", x.parish(0, 3), 1);
            DUE.is("it paid", x.parish(0, 7), 2);
            DUE.is("the other one is the first", x.desk(0, 5), 1);
            DUE.is("BACKLOG", x.desk(0, 4), 1);
            DUE.is("nothing was done for it", x.parish(1, 5), 0);
        }
    }

    private static void fees() {
        DUE.says("4", "PAID: FEES of a PARISH so far.");
        DUE.says("Promise 7", "7 PAID, 8 how often it was REFUSED.");
        for (int e = 0; e <= 9; e++) {
            SunDesk x = Due.hill("sa23;p;p;de" + e + ";r;r");
            Due.text(x, 1, "y:n");
            x.rule(0);
            for (int i = 1; i <= 3; i++) {
                x.file(0, 0);
                x.go(1);
                DUE.is("who is REFUSED pays, too", x.parish(0, 7), e * i);
                DUE.is("REFUSED", x.parish(0, 8), i);
                DUE.is("it holds nothing", x.parish(0, 3), 0);
                DUE.is("it waits nowhere", x.parish(0, 4), -1);
            }
            x.file(0, 1);
            x.go(1);
            DUE.is("so far", x.parish(0, 7), e * 4);
            DUE.is("REFUSED", x.parish(0, 8), 3);
            DUE.is("it holds it", x.parish(0, 3), 2);
            DUE.is("the other one pays nothing", x.parish(1, 7), 0);
        }
    }

    /** The number that a letter is, as far as it is below 10000, when the last PARISH of a HILL is decided on. */
    private static void letter(String hill, int backlog, int held, char letter, int want) {
        for (int differs = -1; differs <= 1; differs++) {
            SunDesk x = Due.hill(hill);
            int parish = x.count(0) - 1;
            int paper = x.count(2) - 1;
            for (int r = 0; r < held; r++) {
                x.file(parish, r);
                x.go(1);
            }
            Due.text(x, 1, "y:" + letter + "=" + (want + differs < 0 ? "0-1" : "" + (want + differs)) + "?1");
            x.rule(0);
            x.file(parish, paper);
            for (int p = 0; p < backlog - 1; p++) {
                x.file(p, 0);
            }
            x.go(1);
            DUE.is(letter + " of " + hill + " is " + (want + differs), x.parish(parish, 3) >> paper & 1, differs == 0 ? 1 : 0);
        }
    }

    private static void letters() {
        DUE.says("2", "Letters, as that is: h the time, d the DAY, w how many were there (itself, too), k how many PAPERS it holds, p the PARISH, n the PAPER, z ZEAL.");
        String six = "sa23;p;p;p;p;p;pf7z9;d;r;r;r;r;r;r;r;r";
        String one = "sa23;pz0;d;r";
        letter(six, 1, 0, 'w', 1);
        letter(six, 2, 0, 'w', 2);
        letter(six, 6, 0, 'w', 6);
        letter(six, 1, 0, 'k', 0);
        letter(six, 1, 1, 'k', 1);
        letter(six, 1, 7, 'k', 7);
        letter(six, 1, 0, 'p', 5);
        letter(six, 1, 0, 'n', 7);
        letter(six, 1, 0, 'z', 9);
        letter(one, 1, 0, 'p', 0);
        letter(one, 1, 0, 'n', 0);
        letter(one, 1, 0, 'z', 0);
        letter(one, 1, 0, 'h', 0);
        letter(one, 1, 0, 'd', 0);
        letter("sa23;p;d;r;r", 1, 1, 'h', 1);
        letter("sa23;p;p;d;d;r;rd1;rd1", 2, 0, 'w', 1);
    }

    private static void wanted() {
        DUE.says("Promise 9", "Of a PAPER: 0 its DESK, 1, 2 what it WANTS (NONE).");
        SunDesk x = Due.hill("p;d;d;d;d;r;rd3n0;rd2m1;rd1n2m0;rn8m8;rn7m7;r;rn7");
        int[][] want = {{0, -1, -1}, {3, 0, -1}, {2, -1, 1}, {1, 2, 0}, {0, -1, -1}, {0, 7, 7}, {0, -1, -1}, {0, 7, -1}};
        for (int r = 0; r < 8; r++) {
            for (int what = 0; what < 3; what++) {
                DUE.is("paper(" + r + ", " + what + ")", x.paper(r, what), want[r][what]);
            }
        }
    }

    private static void theHour() {
        DUE.says("Promise 14", "HOURS (1 .. 240): the HOUR.");
        SunDesk x = Due.hill("p;d;r");
        DUE.is("go(1)", x.go(1), 1);
        DUE.is("go(240)", x.go(240), 241);
        Due.pass(x, 9600);
        DUE.is("go(157)", x.go(157), 9998);
        DUE.is("go(2)", x.go(2), -1);
        DUE.is("go(1)", x.go(1), 9999);
        DUE.is("go(1)", x.go(1), -1);
        DUE.is("the HOUR", x.count(7), 9999);
    }

    private static void facts() {
        DUE.says("Promise 6", "The SUN: DAWN (0), LIGHT (1).");
        DUE.says("Promise 7", "Of a PARISH: 0 FORM, 1 hours it NEEDS, 2 ZEAL, 3 PAPERS it holds (bits), 4 for which PAPER it waits (NONE)");
        DUE.says("Promise 8", "Of a DESK: 0 OPENS, 1 CLOSES, 2 TAKES, 3 FEE, 4 BACKLOG, 5 who is the first there (NONE)");
        DUE.says("4", "BACKLOG: how many wait at a DESK.");
        SunDesk x = Due.hill("sa7l8;p;pf7n2z3;d;do3c21t4e5;r;r;r;r;r;r;r;rd1");
        DUE.is("DAWN", x.sun(0), 7);
        DUE.is("LIGHT", x.sun(1), 8);
        int[] parish = {7, 2, 3, 0, -1, 0, 0, 0, 0};
        int[] desk = {3, 21, 4, 5, 0, -1, 0};
        for (int what = 0; what < 9; what++) {
            DUE.is("parish(1, " + what + ")", x.parish(1, what), parish[what]);
            DUE.is("desk(1, " + what + ")", x.desk(1, what), what < 7 ? desk[what] : -1);
        }
        x.file(1, 7);
        DUE.is("it waits for PAPER 7", x.parish(1, 4), 7);
        DUE.is("BACKLOG", x.desk(1, 4), 1);
        DUE.is("the first", x.desk(1, 5), 1);
        DUE.is("nobody", x.desk(0, 5), -1);
        x.go(7);
        DUE.is("PAPERS it holds", x.parish(1, 3), 128);
        DUE.is("it waits for none", x.parish(1, 4), -1);
    }
}
