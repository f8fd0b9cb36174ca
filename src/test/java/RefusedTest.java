import java.util.ArrayList;
import java.util.List;
import java.util.Map;
import java.util.NoSuchElementException;
import java.util.Set;
import java.util.TreeMap;
import java.util.TreeSet;
import java.util.regex.Matcher;
import java.util.regex.Pattern;

/**
 * "What is refused answers as told and changes nothing.": for each promise and each reason that it names, calls that are refused
 * for it, behind which all that can be asked is as it was, and the nearest ones that are not refused.
 */
public final class RefusedTest {
    private interface Call {
        long on(SunDesk x);
    }

    private static final long MISSING = Long.MIN_VALUE;
    private static final int LOW = Integer.MIN_VALUE;
    private static final int HIGH = Integer.MAX_VALUE;
    private static final Due DUE = new Due("refused");
    private static final Set<String> TRIED = new TreeSet<>();
    private static final Map<String, List<String>> BEFORE = new TreeMap<>();

    private static String reason;
    private static long refusal;
    private static String where;
    private static Asked.Deed stand;

    public static void main(String[] args) {
        DUE.says("4", "What is refused answers as told and changes nothing.");
        texts();
        facts();
        settings();
        filing();
        withdrawing();
        hours();
        past();
        orders();
        routes();
        sharing();
        sights();
        images();
        counts();
        everyReasonIsTried();
        whatIsAskedChangesNothing();
        DUE.close();
    }

    /** What the calls below are refused for. */
    private static void reason(int promise, String kind, String words) {
        reason = promise + " " + kind + ": " + words;
        refusal = kind.equals("NONE") ? -1 : kind.equals("False") ? 0 : kind.equals("HIDDEN") ? -1000000 : kind.equals("-2") ? -2 : MISSING;
        TRIED.add(reason);
    }

    private static void in(String name, Asked.Deed deed) {
        where = name;
        stand = deed;
    }

    private static void inNothing() {
        in("nothing", Stands::nothing);
    }

    private static void inTexts() {
        in("texts without a HILL", Stands::textsAlone);
    }

    private static void inPlay() {
        in("a HILL that is played", Stands::played);
    }

    private static void inFull() {
        in("all full", Stands::full);
    }

    private static void no(String name, Call call) {
        SunDesk x = new SunDesk();
        stand.on(x);
        DUE.is(reason + ": in " + where + ", " + name, call.on(x), refusal);
        List<String> before = BEFORE.computeIfAbsent(where, w -> Asked.after(stand));
        List<String> after = Asked.after(y -> {
            stand.on(y);
            call.on(y);
        });
        DUE.same(reason + ": in " + where + ", behind " + name, Asked.difference(before, after), "");
    }

    private static void yes(String name, Call call, long answer) {
        SunDesk x = new SunDesk();
        stand.on(x);
        DUE.is("not " + reason + ": in " + where + ", " + name, call.on(x), answer);
    }


    private static long bit(boolean answer) {
        return answer ? 1 : 0;
    }

    private static long parish(SunDesk x, int parish, int what) {
        try {
            return x.parish(parish, what);
        } catch (NoSuchElementException e) {
            return MISSING;
        }
    }

    private static void texts() {
        reason(2, "NONE", "more than 240");
        inFull();
        no("feed(0, 0, 0, 0, 1)", x -> x.feed(0, 0, 0, 0, 1));
        no("feed(-1, -1, -1, -1, -1)", x -> x.feed(-1, -1, -1, -1, -1));
        yes("feed(0, 0, 0, 0, 0)", x -> x.feed(0, 0, 0, 0, 0), 240);
        in("221 bytes", x -> Due.feed(x, "p;d;r;" + " ".repeat(215)));
        no("twenty more", x -> x.feed(0x20202020, 0x20202020, 0x20202020, 0x20202020, 0x20202020));
        yes("nineteen more", x -> x.feed(0x20202020, 0x20202020, 0x20202020, 0x20202020, 0x20200020), 240);
        reason(3, "False", "n");
        inPlay();
        for (int n : new int[] {8, -1, 240, 241, HIGH, LOW}) {
            no("end(" + n + ")", x -> bit(x.end(n)));
        }
        for (int n : new int[] {7, 6, 0}) {
            yes("end(" + n + ")", x -> bit(x.end(n)), 1);
        }
        reason(4, "-2", "no such sort");
        for (int sort : new int[] {3, -1, -2, HIGH, LOW}) {
            no("fault(" + sort + ")", x -> x.fault(sort));
        }
        yes("fault(0)", x -> x.fault(0), 0);
        yes("fault(1)", x -> x.fault(1), 0);
        yes("fault(2)", x -> x.fault(2), 6);
        reason(4, "NONE", "none");
        in("right ORDERS", x -> Due.feed(x, "f00;h"));
        no("fault(2)", x -> x.fault(2));
        yes("fault(1)", x -> x.fault(1), 0);
        reasonsOfText();
    }

    private static void reasonsOfText() {
        reason(5, "NONE", "a FAULT");
        inPlay();
        for (int sort = 0; sort < 3; sort++) {
            int s = sort;
            no("text(" + s + ")", x -> x.text(s));
            in("an empty TAPE", x -> {
                Stands.played(x);
                x.end(0);
            });
            no("text(" + s + ")", x -> x.text(s));
            in("a right TEXT behind a FAULT", x -> {
                Stands.played(x);
                x.end(0);
                Due.feed(x, new String[] {"p;d;r", "y:1", "f00;h"}[s]);
                x.feed('x', 0, 0, 0, 0);
                x.end(x.count(5) - 1);
            });
            yes("text(" + s + ")", x -> x.text(s), s == 0 ? 1 : 2);
            inPlay();
        }
        reason(5, "NONE", "no such sort");
        in("a right HILL on the TAPE", x -> {
            Stands.played(x);
            x.end(0);
            Due.feed(x, "p;d;r");
        });
        for (int sort : new int[] {3, -1, -2, HIGH, LOW}) {
            no("text(" + sort + ")", x -> x.text(sort));
        }
        yes("text(0)", x -> x.text(0), 1);
        reason(5, "NONE", "there are four");
        in("four RULES and a right one", x -> {
            Stands.full(x);
            x.end(0);
            Due.feed(x, "y:1");
        });
        no("text(1)", x -> x.text(1));
        in("four ORDERS and right ones", x -> {
            Stands.full(x);
            x.end(0);
            Due.feed(x, "h");
        });
        no("text(2)", x -> x.text(2));
        inFull();
        yes("text(0): a HILL may be told anew", x -> x.text(0), 1);
        inPlay();
        yes("a third RULE", x -> Due.text(x, 1, "y:1"), 2);
        yes("the fourth RULE", x -> Due.text(x, 1, "y:1") + Due.text(x, 1, "y:1"), 5);
        yes("the fourth ORDERS", x -> Due.text(x, 2, "h") + Due.text(x, 2, "h"), 5);
    }

    private static void facts() {
        reason(6, "NONE", "no HILL");
        for (int what = 0; what < 2; what++) {
            int w = what;
            inNothing();
            no("sun(" + w + ")", x -> x.sun(w));
            inTexts();
            no("sun(" + w + ")", x -> x.sun(w));
            inPlay();
            yes("sun(" + w + ")", x -> x.sun(w), w == 0 ? 6 : 12);
        }
        reason(6, "NONE", "no such what");
        for (int what : new int[] {2, -1, HIGH, LOW}) {
            no("sun(" + what + ")", x -> x.sun(what));
        }
        reason(7, "NoSuchElementException", "no such ones");
        int[][] parishes = {{4, 0}, {-1, 0}, {6, 3}, {HIGH, 0}, {LOW, 0}, {0, 9}, {0, -1}, {3, 9}, {3, -1}, {0, HIGH}, {0, LOW}};
        for (int[] p : parishes) {
            no("parish(" + p[0] + ", " + p[1] + ")", x -> parish(x, p[0], p[1]));
        }
        yes("parish(3, 8)", x -> parish(x, 3, 8), 0);
        yes("parish(0, 0)", x -> parish(x, 0, 0), 0);
        inTexts();
        no("parish(0, 0)", x -> parish(x, 0, 0));
        inFull();
        no("parish(6, 0)", x -> parish(x, 6, 0));
        yes("parish(5, 1)", x -> parish(x, 5, 1), 3);
        deskAndPaper();
    }

    private static void deskAndPaper() {
        reason(8, "NONE", "no such ones");
        inPlay();
        int[][] desks = {{2, 0}, {-1, 0}, {4, 6}, {HIGH, 0}, {LOW, 0}, {0, 7}, {0, -1}, {1, 7}, {1, -1}, {0, HIGH}, {0, LOW}};
        for (int[] d : desks) {
            no("desk(" + d[0] + ", " + d[1] + ")", x -> x.desk(d[0], d[1]));
        }
        yes("desk(1, 6)", x -> x.desk(1, 6), 1);
        yes("desk(0, 0)", x -> x.desk(0, 0), 0);
        inTexts();
        no("desk(0, 0)", x -> x.desk(0, 0));
        inFull();
        no("desk(4, 0)", x -> x.desk(4, 0));
        yes("desk(3, 0)", x -> x.desk(3, 0), 23);
        reason(9, "NONE", "no such ones");
        no("paper(8, 0)", x -> x.paper(8, 0));
        yes("paper(7, 0)", x -> x.paper(7, 0), 3);
        inPlay();
        int[][] papers = {{6, 0}, {-1, 0}, {8, 0}, {HIGH, 0}, {LOW, 0}, {2, 3}, {2, -1}, {0, HIGH}, {0, LOW}};
        for (int[] r : papers) {
            no("paper(" + r[0] + ", " + r[1] + ")", x -> x.paper(r[0], r[1]));
        }
        yes("paper(5, 0)", x -> x.paper(5, 0), 0);
        yes("paper(2, 2)", x -> x.paper(2, 2), 1);
        inTexts();
        no("paper(0, 0)", x -> x.paper(0, 0));
    }

    private static void settings() {
        reason(10, "False", "no such one");
        inPlay();
        for (int rule : new int[] {2, 4, -2, HIGH, LOW}) {
            no("rule(" + rule + ")", x -> bit(x.rule(rule)));
        }
        for (int rule = -1; rule < 2; rule++) {
            int r = rule;
            yes("rule(" + r + ")", x -> bit(x.rule(r)), 1);
            yes("rule(" + r + "), count(6)", x -> x.rule(r) ? x.count(6) : HIGH, r);
        }
        inFull();
        no("rule(4)", x -> bit(x.rule(4)));
        yes("rule(3)", x -> bit(x.rule(3)), 1);
        inNothing();
        no("rule(0)", x -> bit(x.rule(0)));
        yes("rule(-1)", x -> bit(x.rule(-1)), 1);
        reason(11, "False", "out of bounds");
        for (int v : new int[] {100, -1, HIGH, LOW}) {
            inPlay();
            no("eclipse(" + v + ")", x -> bit(x.eclipse(v)));
            inFull();
            no("eclipse(" + v + ")", x -> bit(x.eclipse(v)));
        }
        inPlay();
        yes("eclipse(99)", x -> bit(x.eclipse(99)), 1);
        yes("eclipse(0)", x -> bit(x.eclipse(0)), 1);
        reason(11, "False", "it is so");
        no("eclipse(30)", x -> bit(x.eclipse(30)));
        yes("eclipse(29)", x -> bit(x.eclipse(29)), 1);
        yes("eclipse(31)", x -> bit(x.eclipse(31)), 1);
        inFull();
        no("eclipse(99)", x -> bit(x.eclipse(99)));
        inNothing();
        no("eclipse(0)", x -> bit(x.eclipse(0)));
        yes("eclipse(1)", x -> bit(x.eclipse(1)), 1);
    }

    private static void noFile(int parish, int paper) {
        no("file(" + parish + ", " + paper + ")", x -> x.file(parish, paper));
    }

    private static void filing() {
        reason(12, "NONE", "no such ones");
        inNothing();
        noFile(0, 0);
        inTexts();
        noFile(0, 0);
        inPlay();
        int[][] none = {{4, 0}, {-1, 0}, {HIGH, 0}, {LOW, 0}, {0, 6}, {0, -1}, {0, 8}, {0, HIGH}, {0, LOW}, {0, 32}, {32, 0}};
        for (int[] f : none) {
            noFile(f[0], f[1]);
        }
        yes("file(0, 5)", x -> x.file(0, 5), 2);
        yes("file(3, 0)", x -> x.file(3, 0), 2);
        inFull();
        noFile(6, 0);
        noFile(0, 8);
        yes("file(0, 7)", x -> x.file(0, 7), 2);
        reason(12, "NONE", "it waits");
        inPlay();
        noFile(1, 1);
        noFile(1, 5);
        noFile(2, 0);
        noFile(2, 5);
        yes("file(1, 5) behind withdraw(1)", x -> x.withdraw(1) + x.file(1, 5), 1 + 2);
        reason(12, "NONE", "it holds it");
        in("who holds PAPER 0 or 5", x -> {
            Stands.played(x);
            x.go(1);
            x.withdraw(1);
        });
        noFile(1, 0);
        noFile(2, 0);
        noFile(2, 5);
        yes("file(0, 0)", x -> x.file(0, 0), 1);
        yes("file(1, 1)", x -> x.file(1, 1), 1);
        reason(12, "NONE", "it does not hold what that WANTS");
        noFile(0, 1);
        noFile(0, 2);
        noFile(1, 2);
        noFile(3, 3);
        noFile(3, 4);
        yes("file(2, 1)", x -> x.file(2, 1), 1);
        in("who holds PAPERS 0 and 1", x -> {
            Due.text(x, 0, "sa23;pf2;d;r;r;rn0m1");
            x.file(0, 0);
            x.go(1);
            x.file(0, 1);
        });
        noFile(0, 2);
        yes("file(0, 2) when it holds both", x -> x.go(1) + x.file(0, 2), 2 + 1);
    }

    private static void withdrawing() {
        reason(13, "NONE", "no such one");
        inNothing();
        no("withdraw(0)", x -> x.withdraw(0));
        inTexts();
        no("withdraw(0)", x -> x.withdraw(0));
        inPlay();
        for (int p : new int[] {4, -1, 6, 32, HIGH, LOW}) {
            no("withdraw(" + p + ")", x -> x.withdraw(p));
        }
        yes("withdraw(1)", x -> x.withdraw(1), 1);
        inFull();
        no("withdraw(6)", x -> x.withdraw(6));
        yes("withdraw(5)", x -> x.withdraw(5), 7);
        reason(13, "NONE", "it waits nowhere");
        inPlay();
        no("withdraw(0)", x -> x.withdraw(0));
        no("withdraw(3)", x -> x.withdraw(3));
        yes("withdraw(2)", x -> x.withdraw(2), 0);
        in("one has gone", x -> {
            Stands.played(x);
            x.withdraw(2);
        });
        no("withdraw(2)", x -> x.withdraw(2));
        yes("withdraw(1)", x -> x.withdraw(1), 1);
    }

    private static long pass(int promise, SunDesk x, int n) {
        return promise == 14 ? x.go(n) : promise == 15 ? x.toil(n) : x.years(n, 5);
    }

    private static void hours() {
        for (int promise = 14; promise <= 16; promise++) {
            int p = promise;
            int most = p == 15 ? 48 : 240;
            reason(p, "NONE", "no HILL");
            for (int n : new int[] {1, most, most + 1}) {
                inNothing();
                no("for " + n, x -> pass(p, x, n));
                inTexts();
                no("for " + n, x -> pass(p, x, n));
            }
            reason(p, "NONE", "out of bounds");
            inPlay();
            for (int n : new int[] {0, -1, most + 1, 10000, HIGH, LOW}) {
                no("for " + n, x -> pass(p, x, n));
            }
            yes("for 1", x -> pass(p, x, 1), 11);
            yes("for " + most, x -> pass(p, x, most), 10 + most);
            reason(p, "NONE", "above 9999");
            inFull();
            for (int n : new int[] {1, 2, most, HIGH}) {
                no("for " + n, x -> pass(p, x, n));
            }
            in("HOUR 9960", x -> {
                Stands.full(x);
                for (int i = 0; i < 39; i++) {
                    x.undo();
                }
            });
            no("for 40", x -> pass(p, x, 40));
            yes("for 39", x -> pass(p, x, 39), 9999);
        }
    }

    private static void past() {
        reason(17, "NONE", "none");
        inNothing();
        no("undo()", SunDesk::undo);
        in("a new HILL", x -> Due.text(x, 0, Stands.HILL));
        no("undo()", SunDesk::undo);
        in("an IMAGE brought back", Stands::broughtBack);
        no("undo()", SunDesk::undo);
        yes("undo() behind an ACT", x -> x.file(3, 5) + x.undo(), 1);
        in("all that can be is UNDONE", x -> {
            Stands.full(x);
            for (int i = 0; i < 40; i++) {
                x.undo();
            }
        });
        no("undo()", SunDesk::undo);
        inFull();
        yes("undo()", SunDesk::undo, 39);
        reason(18, "NONE", "no such ones");
        for (int[] l : new int[][] {{60, 0}, {60, 1}, {-1, 0}, {HIGH, 0}, {LOW, 1}, {0, 2}, {0, -1}, {59, 2}, {0, HIGH}, {0, LOW}}) {
            no("log(" + l[0] + ", " + l[1] + ")", x -> x.log(l[0], l[1]));
        }
        yes("log(59, 0)", x -> x.log(59, 0), 0);
        inPlay();
        no("log(1, 0)", x -> x.log(1, 0));
        yes("log(0, 0)", x -> x.log(0, 0), 1);
        yes("log(0, 1)", x -> x.log(0, 1), 9);
        inTexts();
        no("log(0, 0)", x -> x.log(0, 0));
    }

    private static void orders() {
        reason(19, "NONE", "no such ones");
        inFull();
        int[][] steps = {{4, 0, 0}, {-1, 0, 0}, {HIGH, 0, 0}, {LOW, 0, 0}, {3, 16, 0}, {0, 3, 0}, {0, -1, 0}, {3, HIGH, 0}, {3, LOW, 0}, {3, 0, 3},
            {3, 0, -1}, {0, 0, HIGH}, {0, 0, LOW}};
        for (int[] s : steps) {
            no("step(" + s[0] + ", " + s[1] + ", " + s[2] + ")", x -> x.step(s[0], s[1], s[2]));
        }
        yes("step(3, 15, 0)", x -> x.step(3, 15, 0), 2);
        yes("step(2, 0, 2)", x -> x.step(2, 0, 2), 2);
        inTexts();
        no("step(2, 0, 0)", x -> x.step(2, 0, 0));
        yes("step(1, 0, 0)", x -> x.step(1, 0, 0), 1);
        inNothing();
        no("step(0, 0, 0)", x -> x.step(0, 0, 0));
        for (int promise = 20; promise <= 21; promise++) {
            int p = promise;
            String kind = p == 20 ? "HIDDEN" : "NONE";
            reason(p, kind, "no such ORDERS");
            inPlay();
            for (int o : new int[] {2, 4, -1, HIGH, LOW}) {
                no("ORDERS " + o, x -> p == 20 ? x.run(o) : x.perform(o));
            }
            yes("ORDERS 1", x -> p == 20 ? x.run(1) : x.perform(1), p == 20 ? -1 : 2);
            inFull();
            no("ORDERS 4", x -> p == 20 ? x.run(4) : x.perform(4));
            yes("ORDERS 3", x -> p == 20 ? x.run(3) : x.perform(3), 0);
            reason(p, kind, "no HILL");
            inTexts();
            no("ORDERS 0", x -> p == 20 ? x.run(0) : x.perform(0));
            no("ORDERS 1", x -> p == 20 ? x.run(1) : x.perform(1));
            in("texts and a HILL", x -> {
                Stands.textsAlone(x);
                Due.text(x, 0, Stands.HILL);
            });
            yes("ORDERS 0", x -> p == 20 ? x.run(0) : x.perform(0), p == 20 ? -1 : 5);
        }
        reason(22, "NONE", "no such ones");
        inPlay();
        for (int[] a : new int[][] {{4, 0, 0}, {-1, 0, 0}, {HIGH, 1, 1}, {LOW, 1, 1}, {0, 1, 2}, {0, 1, -1}, {0, 1, HIGH}, {0, 1, LOW}}) {
            no("ahead(" + a[0] + ", " + a[1] + ", " + a[2] + ")", x -> x.ahead(a[0], a[1], a[2]));
        }
        yes("ahead(3, 0, 0)", x -> x.ahead(3, 0, 0), 0);
        inTexts();
        no("ahead(0, 0, 0)", x -> x.ahead(0, 0, 0));
        reason(22, "NONE", "out of bounds");
        inPlay();
        for (int n : new int[] {241, -1, HIGH, LOW}) {
            no("ahead(0, " + n + ", 0)", x -> x.ahead(0, n, 0));
            no("ahead(0, " + n + ", 1)", x -> x.ahead(0, n, 1));
        }
        yes("ahead(0, 0, 1)", x -> x.ahead(0, 0, 1), 9);
        yes("ahead(0, 240, 1)", x -> x.ahead(0, 240, 1), 0);
    }

    private static void routes() {
        reason(23, "NONE", "no such PAPER");
        inPlay();
        for (int r : new int[] {6, -1, 8, 32, HIGH, LOW}) {
            no("needed(" + r + ")", x -> x.needed(r));
        }
        yes("needed(5)", x -> x.needed(5), 32);
        yes("needed(0)", x -> x.needed(0), 1);
        inFull();
        no("needed(8)", x -> x.needed(8));
        yes("needed(7)", x -> x.needed(7), 128);
        inTexts();
        no("needed(0)", x -> x.needed(0));
        reason(24, "NONE", "no HILL");
        no("ring()", SunDesk::ring);
        inNothing();
        no("ring()", SunDesk::ring);
        inPlay();
        yes("ring()", SunDesk::ring, 24);
        reason(25, "NONE", "there is none");
        for (int what = 0; what < 3; what++) {
            int w = what;
            no("soonest(3, " + w + ")", x -> x.soonest(3, w));
        }
        yes("soonest(0, 0)", x -> x.soonest(0, 0), 1);
        reason(25, "NONE", "no such ones");
        for (int[] s : new int[][] {{4, 0}, {-1, 0}, {HIGH, 0}, {LOW, 0}, {0, 3}, {0, -1}, {0, HIGH}, {0, LOW}}) {
            no("soonest(" + s[0] + ", " + s[1] + ")", x -> x.soonest(s[0], s[1]));
        }
        yes("soonest(0, 2)", x -> x.soonest(0, 2), 1);
        inFull();
        no("soonest(6, 0)", x -> x.soonest(6, 0));
        yes("soonest(5, 2)", x -> x.soonest(5, 2), 1);
        inTexts();
        no("soonest(0, 0)", x -> x.soonest(0, 0));
        reason(26, "NONE", "no such PARISH");
        no("waived(0)", x -> x.waived(0));
        inPlay();
        for (int p : new int[] {4, -1, 6, 32, HIGH, LOW}) {
            no("waived(" + p + ")", x -> x.waived(p));
        }
        yes("waived(3)", x -> x.waived(3), 8);
        reason(27, "NONE", "none");
        in("rings alone", x -> Due.text(x, 0, "p;pf1;d;rn0;rn0"));
        no("earliest()", SunDesk::earliest);
        in("one who is in no ring", x -> Due.text(x, 0, "p;pf1;d;rn0;r"));
        yes("earliest()", SunDesk::earliest, 1);
        reason(27, "NONE", "no HILL");
        inNothing();
        no("earliest()", SunDesk::earliest);
        inTexts();
        no("earliest()", SunDesk::earliest);
        inPlay();
        yes("earliest()", SunDesk::earliest, 0);
    }

    private static void noShare(int row, int parish) {
        no("share(" + row + ", " + parish + ")", x -> x.share(row, parish));
    }

    private static void sharing() {
        reason(28, "HIDDEN", "no such PARISH");
        inPlay();
        for (int p : new int[] {4, -1, 6, HIGH, LOW}) {
            noShare(123, p);
        }
        yes("share(123, 3)", x -> x.share(123, 3), 6);
        inTexts();
        noShare(0, 0);
        reason(28, "HIDDEN", "no such row");
        inPlay();
        for (int row : new int[] {4, 40, 4000, 124, 5123, 10123, 20000, 100000123, -123, -1, HIGH, LOW, 8, 9}) {
            noShare(row, 0);
        }
        yes("share(0, 0)", x -> x.share(0, 0), 3);
        yes("share(3333, 3)", x -> x.share(3333, 3), 3);
        reason(28, "HIDDEN", "more than five PARISHES");
        inFull();
        noShare(765430, 0);
        noShare(0, 0);
        noShare(77777, 0);
        in("five PARISHES", x -> Due.text(x, 0, "sl24;pf7n24;pf6;pf5;pf4;pf3;d;r;r;r;r;r;r;r;r"));
        yes("share(76543, 0)", x -> x.share(76543, 0), 24);
        reason(29, "HIDDEN", "more than five PARISHES (whatever i is)");
        inFull();
        for (int i : new int[] {-1, 0, 1, -2, HIGH, LOW}) {
            no("rests(" + i + ")", x -> x.rests(i));
        }
        in("five PARISHES", x -> Due.text(x, 0, "sl24;pf7n24;pf6;pf5;pf4;pf3;d;r;r;r;r;r;r;r;r"));
        yes("rests(-1)", x -> bit(x.rests(-1) > 0), 1);
        reason(29, "NONE", "no such one");
        in("two rows that rest", x -> Due.text(x, 0, "pn24;pn24f1;d;r;r"));
        for (int i : new int[] {2, -2, HIGH, LOW}) {
            no("rests(" + i + ")", x -> x.rests(i));
        }
        yes("rests(-1)", x -> x.rests(-1), 2);
        yes("rests(0)", x -> x.rests(0), 1);
        yes("rests(1)", x -> x.rests(1), 10);
        reason(29, "NONE", "no HILL");
        for (int i : new int[] {-1, 0, 1}) {
            inNothing();
            no("rests(" + i + ")", x -> x.rests(i));
            inTexts();
            no("rests(" + i + ")", x -> x.rests(i));
        }
        bribes();
    }

    private static void noBribes(int g, int f, int c, int what) {
        no("bribes(" + g + ", " + f + ", " + c + ", " + what + ")", x -> x.bribes(g, f, c, what));
    }

    private static void bribes() {
        reason(30, "NONE", "out of bounds");
        inPlay();
        for (int v : new int[] {0, 100, -1, HIGH, LOW}) {
            noBribes(v, 5, 5, 0);
            noBribes(5, v, 5, 0);
            noBribes(5, 5, v, 0);
        }
        yes("bribes(1, 99, 1, 1)", x -> x.bribes(1, 99, 1, 1), 99);
        yes("bribes(99, 1, 99, 1)", x -> x.bribes(99, 1, 99, 1), 1);
        reason(30, "NONE", "no such what");
        for (int what : new int[] {4, -1, HIGH, LOW}) {
            noBribes(5, 5, 5, what);
        }
        yes("bribes(5, 6, 5, 0)", x -> x.bribes(5, 6, 5, 0), 5);
        yes("bribes(5, 6, 5, 3)", x -> x.bribes(5, 6, 5, 3), 11);
        inNothing();
        yes("bribes(5, 6, 5, 3) without a HILL", x -> x.bribes(5, 6, 5, 3), 11);
    }

    private static void noSee(int parish, int hours) {
        no("see(" + parish + ", " + hours + ")", x -> x.see(parish, hours));
    }

    private static void sights() {
        reason(31, "NONE", "no such PARISH");
        inNothing();
        noSee(0, 0);
        inTexts();
        noSee(0, 0);
        inPlay();
        for (int p : new int[] {4, -1, 6, HIGH, LOW}) {
            noSee(p, 0);
        }
        yes("see(3, 0)", x -> x.see(3, 0), 3);
        reason(31, "NONE", "out of bounds");
        for (int h : new int[] {25, -1, HIGH, LOW}) {
            noSee(0, h);
        }
        yes("see(0, 24)", x -> x.see(0, 24), 3);
        yes("see(0, 0)", x -> x.see(0, 0), 3);
        reason(31, "NONE", "there are 12");
        inFull();
        noSee(0, 0);
        noSee(5, 24);
        in("eleven are SEEN", x -> {
            Due.text(x, 0, "p;d;r");
            for (int i = 0; i < 11; i++) {
                x.see(0, 6);
            }
        });
        yes("see(0, 0)", x -> x.see(0, 0), 12);
        reason(32, "NONE", "no such one");
        inPlay();
        for (int i : new int[] {4, -2, HIGH, LOW}) {
            no("could(" + i + ")", x -> x.could(i));
        }
        yes("could(-1)", x -> x.could(-1), 4);
        yes("could(3)", x -> x.could(3), 15);
        inFull();
        no("could(0)", x -> x.could(0));
        yes("could(-1)", x -> x.could(-1), 0);
        sightsWithout();
    }

    private static void sightsWithout() {
        for (boolean texts : new boolean[] {false, true}) {
            if (texts) {
                inTexts();
            } else {
                inNothing();
            }
            reason(32, "NONE", "no HILL");
            no("could(-1)", x -> x.could(-1));
            no("could(0)", x -> x.could(0));
            reason(33, "NONE", "no HILL");
            no("sure()", SunDesk::sure);
            reason(34, "NONE", "no HILL");
            no("wrong()", SunDesk::wrong);
            reason(35, "NONE", "no HILL");
            no("works(1, 0)", x -> x.works(1, 0));
            no("works(1, 1)", x -> x.works(1, 1));
            reason(36, "NONE", "no HILL");
            no("image()", SunDesk::image);
        }
        inPlay();
        yes("sure()", SunDesk::sure, 3);
        yes("wrong()", SunDesk::wrong, 0);
        reason(33, "NONE", "there is no such set");
        inFull();
        no("sure()", SunDesk::sure);
        yes("wrong()", SunDesk::wrong, 6);
        reason(35, "NONE", "out of bounds");
        for (int[] w : new int[][] {{0, 0}, {10, 0}, {-1, 1}, {HIGH, 0}, {LOW, 0}, {1, 2}, {1, -1}, {9, HIGH}, {9, LOW}}) {
            no("works(" + w[0] + ", " + w[1] + ")", x -> x.works(w[0], w[1]));
        }
        yes("works(1, 0)", x -> x.works(1, 0), 0);
        yes("works(9, 1)", x -> x.works(9, 1), 0);
        reason(35, "NONE", "the LOG is shorter");
        inPlay();
        no("works(2, 0)", x -> x.works(2, 0));
        no("works(9, 1)", x -> x.works(9, 1));
        yes("works(1, 0)", x -> x.works(1, 0), 0);
        yes("works(1, 1)", x -> x.works(1, 1), 9);
    }

    private static void images() {
        reason(36, "NONE", "no HILL");
        inPlay();
        yes("image()", SunDesk::image, 10);
        reason(37, "NONE", "no IMAGE of this HILL");
        inNothing();
        no("back()", SunDesk::back);
        inTexts();
        no("back()", SunDesk::back);
        in("a HILL without an IMAGE", x -> {
            Due.text(x, 0, Stands.HILL);
            x.file(0, 0);
            x.go(30);
        });
        no("back()", SunDesk::back);
        in("the same HILL told anew behind an IMAGE", x -> {
            Stands.played(x);
            Due.text(x, 0, Stands.HILL);
            x.file(0, 0);
        });
        no("back()", SunDesk::back);
        in("a HILL that was refused behind an IMAGE", x -> {
            Stands.played(x);
            Due.text(x, 0, "p;d");
        });
        yes("back()", SunDesk::back, 3);
        inPlay();
        yes("back()", SunDesk::back, 3);
    }

    private static void counts() {
        reason(38, "HIDDEN", "others");
        inPlay();
        for (int what : new int[] {12, -1, 13, 32, HIGH, LOW}) {
            no("count(" + what + ")", x -> x.count(what));
        }
        inNothing();
        no("count(12)", x -> x.count(12));
        no("count(-1)", x -> x.count(-1));
        inPlay();
        yes("count(0)", x -> x.count(0), 4);
        yes("count(11)", x -> x.count(11), 15);
    }

    private static void whatIsAskedChangesNothing() {
        for (int page = 0; page < Asked.questions(); page++) {
            int p = page;
            DUE.same("behind page " + p + " of questions", Asked.difference(Asked.after(Stands::played), Asked.after(x -> {
                Stands.played(x);
                Asked.ask(x, p);
            })), "");
        }
    }

    /** The reasons that the document tells behind NONE, False, HIDDEN, -2 and the exception, and those that were tried, are the same. */
    private static void everyReasonIsTried() {
        Set<String> told = new TreeSet<>();
        Pattern refusals = Pattern.compile("(?<=[.] )(NONE|False|HIDDEN|-2|NoSuchElementException)(: | likewise| for )([^.]*)\\.");
        List<String> ofHours = new ArrayList<>();
        for (int promise = 1; promise <= 38; promise++) {
            Matcher m = refusals.matcher(Document.section("Promise " + promise));
            while (m.find()) {
                List<String> reasons = m.group(2).equals(" likewise") ? ofHours : List.of(m.group(3).split(", "));
                for (String r : reasons) {
                    told.add(promise + " " + m.group(1) + ": " + r);
                }
                if (promise == 14) {
                    ofHours.addAll(reasons);
                }
            }
        }
        DUE.is("the document tells reasons", told.size() > 60, true);
        DUE.same("every reason is tried", TRIED.toString(), told.toString());
    }
}
