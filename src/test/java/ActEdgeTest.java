/** The edges of what can be UNDONE, of what is seen AHEAD, and of an IMAGE. */
public final class ActEdgeTest {
    private static final Due DUE = new Due("acts' edges");

    public static void main(String[] args) {
        whatIsAnAct();
        whatIsNoAct();
        latestForty();
        eachIsUndone();
        theLogToo();
        hoursAnew();
        howManyStillCanBe();
        ahead();
        aheadOfNothing();
        aheadBeyond9999();
        aheadIsApart();
        imageKeepsAll();
        imageKeepsTheLog();
        imageKeepsNoSeen();
        noneCanBeUndoneThen();
        insteadOfTheOneAhead();
        imageAtTheEnd();
        DUE.close();
    }

    private static void whatIsAnAct() {
        DUE.says("2", "Filing, withdrawing, HOURS (each) are ACTS");
        DUE.says("4", "Each HOUR is one ACT.");
        SunDesk x = Due.hill("sa6;pz9;pz9;pz9;d;r");
        int acts = 0;
        x.file(0, 0);
        DUE.is("filing", x.count(11), ++acts);
        x.withdraw(0);
        DUE.is("withdrawing", x.count(11), ++acts);
        x.go(1);
        DUE.is("an HOUR", x.count(11), ++acts);
        x.go(7);
        DUE.is("each HOUR", x.count(11), acts += 7);
        x.toil(4);
        DUE.is("each HOUR of TOIL, whoever FILES in it", x.count(11), acts += 4);
        x.years(5, 1);
        DUE.is("each HOUR of YEARS", x.count(11), acts += 5);
        Due.text(x, 2, "h;h;w0;w1;w2;f00");
        int done = x.perform(0);
        DUE.is("each STEP that was done", x.count(11), acts + done);
    }

    private static void whatIsNoAct() {
        SunDesk x = new SunDesk();
        Stands.played(x);
        int acts = x.count(11);
        x.rule(0);
        x.eclipse(7);
        x.see(0, 1);
        x.image();
        x.run(0);
        x.ahead(0, 9, 0);
        x.soonest(0, 1);
        x.rests(-1);
        Due.text(x, 1, "y:1");
        Due.text(x, 2, "h");
        x.fault(0);
        DUE.is("none of these is one", x.count(11), acts);
        x.undo();
        DUE.is("the RULE that holds stays", x.count(6), 0);
        DUE.is("ECLIPSE stays", x.count(8), 7);
        DUE.is("SEEN stays", x.count(9), 3);
        DUE.is("RULES stay", x.count(3), 3);
        DUE.is("ORDERS stay", x.count(4), 3);
    }

    private static void latestForty() {
        DUE.says("2", "the latest 40 can be UNDONE one by one (the LOG, too).");
        for (int many = 38; many <= 43; many++) {
            for (int sort = 0; sort < 4; sort++) {
                SunDesk x = Due.hill("p;d;r");
                for (int i = 0; i < many; i++) {
                    DUE.is("ACTS", x.count(11), Math.min(i, 40));
                    if (sort == 0) {
                        x.go(1);
                    } else if (sort == 1) {
                        x.toil(1);
                    } else if (sort == 2) {
                        x.years(1, i);
                    } else if (x.file(0, 0) == -1) {
                        x.withdraw(0);
                    }
                }
                DUE.is("ACTS", x.count(11), Math.min(many, 40));
                for (int i = Math.min(many, 40) - 1; i >= 0; i--) {
                    DUE.is("undo", x.undo(), i);
                }
                DUE.is("no more", x.undo(), -1);
                DUE.is("those ahead of the latest 40 stay", x.count(7), sort == 3 ? 0 : Math.max(many - 40, 0));
                DUE.is("who waits", x.parish(0, 4), sort == 3 && many > 40 && many % 2 == 1 ? 0 : -1);
            }
        }
        SunDesk x = Due.hill("p;d;r");
        x.go(240);
        DUE.is("of 240 HOURS", x.count(11), 40);
        for (int i = 0; i < 40; i++) {
            x.undo();
        }
        DUE.is("HOUR", x.count(7), 200);
    }

    /** A HILL behind so many ACTS of all sorts, the same ones each time. */
    private static SunDesk acted(int many) {
        SunDesk x = Due.hill("sa5l9;pn4;pf1z9;d;do3c9t2e4;r;rd1n0");
        Due.text(x, 1, "y:h<6?1;y:0");
        x.rule(0);
        for (int i = 0; i < many; i++) {
            boolean filed = i % 5 == 2 && x.file(0, 0) != -1 || i % 5 == 3 && x.file(1, i % 2) != -1;
            if (!filed && (i % 9 != 4 || x.withdraw(1) == -1)) {
                int way = i % 3;
                int hour = way == 0 ? x.go(1) : way == 1 ? x.toil(1) : x.years(1, i);
                DUE.is("HOUR", hour, x.count(7));
            }
        }
        DUE.is("ACTS", x.count(11), many);
        return x;
    }

    private static void eachIsUndone() {
        for (int left = 0; left <= 40; left++) {
            SunDesk x = acted(40);
            for (int i = 39; i >= left; i--) {
                DUE.is("undo", x.undo(), i);
            }
            DUE.same("as it was behind " + left + " ACTS", Due.stand(x), Due.stand(acted(left)));
        }
    }

    private static void theLogToo() {
        SunDesk x = Due.hill("sa0;p;d;r");
        x.file(0, 0);
        Due.pass(x, 1440);
        DUE.is("rows", x.count(10), 60);
        DUE.is("the second DAY had light", x.log(58, 0), 1);
        x.go(1);
        DUE.is("the first row is gone", x.log(59, 0), 1);
        x.undo();
        DUE.is("it is there again", x.log(59, 0), 0);
        DUE.is("rows", x.count(10), 60);
        x.go(25);
        DUE.is("both are gone", x.log(59, 0) + x.works(1, 1), 0);
        for (int i = 0; i < 25; i++) {
            x.undo();
        }
        DUE.is("both are there again", x.log(58, 0), 1);
        DUE.is("with their hours", x.log(58, 1), 6);
        DUE.is("works knows it", x.works(1, 0), 1);
        SunDesk y = Due.hill("sa3;p;d;r");
        y.file(0, 0);
        y.go(4);
        DUE.is("a row", y.count(10), 1);
        y.undo();
        DUE.is("no row", y.count(10), 0);
        DUE.is("no row", y.log(0, 0), -1);
        DUE.is("no light", y.parish(0, 6), 0);
        DUE.is("its FORM again", y.parish(0, 3), 1);
    }

    private static void hoursAnew() {
        SunDesk x = Due.hill("sa3;p;p;d;r");
        x.file(0, 0);
        x.go(4);
        DUE.is("with light", x.log(0, 0), 1);
        for (int i = 0; i < 5; i++) {
            x.undo();
        }
        x.file(1, 0);
        x.go(4);
        DUE.is("another one has light", x.log(0, 0), 2);
        DUE.is("rows", x.count(10), 1);
        DUE.is("ACTS", x.count(11), 5);
        DUE.is("undo", x.undo(), 4);
        x.go(1);
        DUE.is("the same again", x.log(0, 0), 2);
        for (int i = 4; i >= 0; i--) {
            DUE.is("undo", x.undo(), i);
        }
        DUE.is("nobody waits", x.desk(0, 4), 0);
    }

    private static void howManyStillCanBe() {
        DUE.says("Promise 17", "The latest ACT is UNDONE: how many still can be. NONE: none.");
        SunDesk x = Due.hill("p;d;r");
        DUE.is("none", x.undo(), -1);
        x.file(0, 0);
        DUE.is("the only one", x.undo(), 0);
        DUE.is("none", x.undo(), -1);
        x.go(2);
        DUE.is("one still", x.undo(), 1);
        x.go(1);
        DUE.is("ACTS", x.count(11), 2);
        DUE.is("one still", x.undo(), 1);
        DUE.is("none still", x.undo(), 0);
        DUE.is("none", x.undo(), -1);
    }

    private static void ahead() {
        DUE.says("3", "AHEAD: what a PARISH holds (bits) behind n HOURS");
        DUE.says("3", "the light it had at the latest DAWN");
        DUE.says("Promise 22", "AHEAD (n 0 .. 240): PAPERS (0), light (1).");
        SunDesk x = Due.hill("sa6l12;pn9;pf1;d;dt4;r;rd1");
        x.file(0, 0);
        x.file(1, 1);
        SunDesk apart = Due.hill("sa6l12;pn9;pf1;d;dt4;r;rd1");
        apart.file(0, 0);
        apart.file(1, 1);
        for (int n = 0; n <= 40; n++) {
            for (int p = 0; p < 2; p++) {
                DUE.is("ahead(" + p + ", " + n + ", 0)", x.ahead(p, n, 0), apart.parish(p, 3));
                DUE.is("ahead(" + p + ", " + n + ", 1)", x.ahead(p, n, 1), apart.parish(p, 6));
            }
            apart.go(1);
        }
        int[][] want = {{0, 0, 0}, {1, 1, 0}, {6, 1, 0}, {7, 0, 9}, {30, 0, 9}, {31, 0, 0}, {240, 0, 0}};
        for (int[] w : want) {
            DUE.is("PAPERS behind " + w[0], x.ahead(0, w[0], 0), w[1]);
            DUE.is("light behind " + w[0], x.ahead(0, w[0], 1), w[2]);
        }
    }

    private static void aheadOfNothing() {
        SunDesk x = Due.hill("sa3;p;d;r;r");
        DUE.is("nothing yet", x.ahead(0, 0, 0), 0);
        DUE.is("no DAWN yet", x.ahead(0, 0, 1), 0);
        x.file(0, 0);
        x.go(3);
        x.file(0, 1);
        DUE.is("what it holds now", x.ahead(0, 0, 0), 1);
        DUE.is("behind an HOUR", x.ahead(0, 1, 0), 2);
        x.go(1);
        DUE.is("what it holds now", x.ahead(0, 0, 0), 2);
        DUE.is("its light now", x.ahead(0, 0, 1), 6);
    }

    private static void aheadBeyond9999() {
        DUE.says("3", "(beyond 9999, too)");
        SunDesk x = Due.hill("sa6;p;do20t9;r");
        Due.pass(x, 9999);
        x.file(0, 0);
        DUE.is("no HOUR can be", x.go(1), -1);
        // HOUR 9999 is at 15: open from 20 to 24, four hours a DAY, the ninth at HOUR 10052.
        DUE.is("not yet", x.ahead(0, 53, 0), 0);
        DUE.is("beyond 9999", x.ahead(0, 54, 0), 1);
        DUE.is("held till DAWN", x.ahead(0, 63, 0), 1);
        DUE.is("light beyond 9999", x.ahead(0, 64, 1), 6);
        DUE.is("held no more", x.ahead(0, 64, 0), 0);
        DUE.is("it is HOUR 9999", x.count(7), 9999);
        Due.text(x, 1, "y:d>417?1");
        Due.text(x, 1, "y:d>418?1");
        x.rule(0);
        DUE.is("by the DAY it is then", x.ahead(0, 54, 0), 1);
        x.rule(1);
        DUE.is("by the DAY it is then", x.ahead(0, 54, 0), 0);
    }

    private static void aheadIsApart() {
        for (int n : new int[] {0, 1, 2, 24, 239, 240}) {
            DUE.same("nothing is changed by ahead(.., " + n + ", ..)", Asked.difference(Asked.after(Stands::played), Asked.after(x -> {
                Stands.played(x);
                x.ahead(1, n, 0);
                x.ahead(0, n, 1);
            })), "");
        }
    }

    private static void imageKeepsAll() {
        DUE.says("4", "An IMAGE keeps all of this HILL but SEEN; BACK: it is so again");
        DUE.says("Promise 36", "An IMAGE (instead of the one ahead): the HOUR.");
        DUE.says("Promise 37", "BACK: the HOUR.");
        SunDesk x = new SunDesk();
        Stands.played(x);
        DUE.is("image", x.image(), 10);
        String before = Due.stand(x);
        x.go(1);
        x.withdraw(1);
        x.file(0, 5);
        x.go(239);
        x.toil(48);
        x.years(240, 3);
        DUE.is("another HOUR", x.count(7), 538);
        DUE.is("back", x.back(), 10);
        DUE.same("all is so again, but for ACTS", Due.stand(x), before.replaceFirst(" 1 15 ", " 1 0 "));
        DUE.is("what is done goes on", x.parish(1, 5), 1);
        x.go(1);
        DUE.is("what is done goes on", x.parish(1, 5), 2);
        x.go(23);
        DUE.is("it is granted on the next DAY", x.parish(1, 3), 3);
        DUE.is("its FEES", x.parish(1, 7), 8);
    }

    /** Its rows are those of its own HOURS, whatever comes into the LOG behind acts undone. */
    private static void imageKeepsTheLog() {
        SunDesk x = Due.hill("sa0;p;pn3;d;r");
        x.file(0, 0);
        x.go(25);
        x.image();
        DUE.is("light", x.log(0, 0), 1);
        for (int i = 0; i < 26; i++) {
            x.undo();
        }
        x.file(1, 0);
        x.go(49);
        DUE.is("light of another one", x.log(1, 0), 2);
        DUE.is("back", x.back(), 25);
        DUE.is("rows", x.count(10), 2);
        DUE.is("the light of its own HOURS", x.log(0, 0), 1);
        DUE.is("its hours", x.log(0, 1), 6);
        DUE.is("none at first", x.log(1, 0), 0);
        DUE.is("works knows it", x.works(1, 1), 6);
        x.go(1);
        x.undo();
        x.file(1, 0);
        x.go(24);
        DUE.is("it goes on", x.log(0, 0), 2);
        DUE.is("back once more", x.back(), 25);
        DUE.is("rows", x.count(10), 2);
        DUE.is("light", x.log(0, 0), 1);
        SunDesk full = Due.hill("sa0;p;d;r");
        full.toil(48);
        Due.pass(full, 1440);
        full.image();
        String log = Due.stand(full).replaceFirst(" 60 40 ", " 60 0 ");
        Due.pass(full, 1440);
        full.back();
        DUE.same("all its 60 rows", Due.stand(full), log);
    }

    private static void imageKeepsNoSeen() {
        SunDesk x = Due.hill("p;p;d;r");
        x.see(0, 6);
        x.image();
        x.see(1, 6);
        x.back();
        DUE.is("what was SEEN since stays", x.count(9), 2);
        DUE.is("and is so", x.sure(), 3);
        for (int i = 0; i < 10; i++) {
            x.see(0, 6);
        }
        x.back();
        DUE.is("12 of them", x.count(9), 12);
    }

    private static void noneCanBeUndoneThen() {
        DUE.says("4", "(no ACT can be UNDONE then)");
        SunDesk x = Due.hill("p;d;r");
        x.go(3);
        x.image();
        DUE.is("ACTS stay", x.count(11), 3);
        x.go(2);
        x.back();
        DUE.is("ACTS", x.count(11), 0);
        DUE.is("undo", x.undo(), -1);
        DUE.is("HOUR", x.count(7), 3);
        x.back();
        DUE.is("undo", x.undo(), -1);
        x.file(0, 0);
        DUE.is("a new one can", x.undo(), 0);
        DUE.is("no other one", x.undo(), -1);
    }

    private static void insteadOfTheOneAhead() {
        SunDesk x = Due.hill("sa1;p;d;r");
        DUE.is("image", x.image(), 0);
        x.file(0, 0);
        x.go(1);
        DUE.is("another", x.image(), 1);
        x.go(9);
        for (int i = 0; i < 3; i++) {
            DUE.is("back as often as one likes", x.back(), 1);
            DUE.is("its PAPERS", x.parish(0, 3), 1);
            DUE.is("its LOG", x.count(10), 0);
            x.go(i + 1);
        }
        x.back();
        DUE.is("another at the same HOUR", x.image(), 1);
        x.go(1);
        DUE.is("its LOG", x.count(10), 1);
        x.image();
        x.back();
        DUE.is("its LOG", x.log(0, 0), 1);
    }

    private static void imageAtTheEnd() {
        SunDesk apart = new SunDesk();
        Stands.full(apart);
        SunDesk x = new SunDesk();
        Stands.full(x);
        DUE.is("image", x.image(), 9999);
        for (int i = 0; i < 40; i++) {
            x.undo();
        }
        DUE.is("back", x.back(), 9999);
        DUE.same("all of it", Due.stand(x), Due.stand(apart).replaceFirst(" 60 40 ", " 60 0 "));
        DUE.is("no HOUR can be", x.go(1), -1);
    }
}
