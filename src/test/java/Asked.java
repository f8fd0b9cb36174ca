import java.util.ArrayList;
import java.util.List;
import java.util.NoSuchElementException;

/** All that can be asked of an object, and what comes of it later, in pages that stay within its 512 calls. */
final class Asked {
    interface Deed {
        void on(SunDesk x);
    }

    private interface Page {
        void ask(Asked asked);
    }

    /** Those that only ask. */
    private static final Page[] QUESTIONS = {Asked::askFacts, Asked::askLog, Asked::askSteps, Asked::askAhead, Asked::askRoutes, Asked::askGames};
    private static final Page[] PAGES = {Asked::askFacts, Asked::askLog, Asked::askSteps, Asked::askAhead, Asked::askRoutes, Asked::askGames,
        Asked::askTape, a -> a.askUndone(1), a -> a.askUndone(17), a -> a.askUndone(40), Asked::askUndoneAll, Asked::askBack,
        Asked::askPerformed, Asked::askYears, Asked::askTold};

    private final SunDesk x;
    private final List<String> answers;

    private Asked(SunDesk x, List<String> answers) {
        this.x = x;
        this.answers = answers;
    }

    /** Each page is asked of an object of its own, for which all is done anew. */
    static List<String> after(Deed deed) {
        List<String> answers = new ArrayList<>();
        for (Page page : PAGES) {
            SunDesk x = new SunDesk();
            deed.on(x);
            page.ask(new Asked(x, answers));
        }
        return answers;
    }

    static int questions() {
        return QUESTIONS.length;
    }

    /** Asks a page of questions and forgets what is answered. */
    static void ask(SunDesk x, int page) {
        QUESTIONS[page].ask(new Asked(x, new ArrayList<>()));
    }

    /** The first answer that is another one; "" if all are alike. */
    static String difference(List<String> before, List<String> after) {
        for (int i = 0; i < Math.max(before.size(), after.size()); i++) {
            String was = i < before.size() ? before.get(i) : "nothing";
            String is = i < after.size() ? after.get(i) : "nothing";
            if (!was.equals(is)) {
                return was + " became " + is;
            }
        }
        return "";
    }

    private void note(String call, long answer) {
        answers.add(call + " = " + answer);
    }

    private void note(String name, int a, long answer) {
        note(name + "(" + a + ")", answer);
    }

    private void note(String name, int a, int b, long answer) {
        note(name + "(" + a + ", " + b + ")", answer);
    }

    private void askParish(int p, int what) {
        long answer;
        try {
            answer = x.parish(p, what);
        } catch (NoSuchElementException e) {
            answer = Long.MIN_VALUE;
        }
        note("parish", p, what, answer);
    }

    private void askCounts() {
        for (int what = 0; what <= 11; what++) {
            note("count", what, x.count(what));
        }
    }

    /** Who holds what and waits where. */
    private void askStand() {
        askCounts();
        for (int p = 0; p < 6; p++) {
            for (int what = 3; what <= 8; what++) {
                askParish(p, what);
            }
        }
        for (int d = 0; d < 4; d++) {
            note("desk", d, 4, x.desk(d, 4));
            note("desk", d, 5, x.desk(d, 5));
        }
        for (int i = 0; i < 5; i++) {
            note("log", i, 0, x.log(i, 0));
            note("log", i, 1, x.log(i, 1));
        }
    }

    private void askFacts() {
        for (int what = -1; what <= 12; what++) {
            note("count", what, x.count(what));
        }
        for (int what = 0; what <= 8; what++) {
            note("sun", what, x.sun(what));
            for (int p = 0; p < 6; p++) {
                askParish(p, what);
            }
            for (int d = 0; d < 4; d++) {
                note("desk", d, what, x.desk(d, what));
            }
            for (int r = 0; r < 8; r++) {
                note("paper", r, what, x.paper(r, what));
            }
        }
    }

    private void askLog() {
        for (int i = 0; i <= 60; i++) {
            note("log", i, 0, x.log(i, 0));
            note("log", i, 1, x.log(i, 1));
        }
        for (int n = 1; n <= 9; n++) {
            note("works", n, 0, x.works(n, 0));
            note("works", n, 1, x.works(n, 1));
        }
        for (int i = -1; i < 17; i++) {
            note("could", i, x.could(i));
        }
        note("sure()", x.sure());
        note("wrong()", x.wrong());
    }

    private void askSteps() {
        for (int o = 0; o < 4; o++) {
            note("run", o, x.run(o));
            for (int i = 0; i < 16; i++) {
                for (int what = 0; what < 3; what++) {
                    note("step(" + o + ", " + i + ", " + what + ")", x.step(o, i, what));
                }
            }
        }
    }

    private void askAhead() {
        for (int p = 0; p < 6; p++) {
            for (int n : new int[] {0, 1, 2, 3, 7, 24, 25, 48, 240}) {
                note("ahead(" + p + ", " + n + ", 0)", x.ahead(p, n, 0));
                note("ahead(" + p + ", " + n + ", 1)", x.ahead(p, n, 1));
            }
        }
    }

    private void askRoutes() {
        for (int r = 0; r < 8; r++) {
            note("needed", r, x.needed(r));
        }
        note("ring()", x.ring());
        note("earliest()", x.earliest());
        for (int p = 0; p < 6; p++) {
            note("waived", p, x.waived(p));
            for (int what = 0; what < 3; what++) {
                note("soonest", p, what, x.soonest(p, what));
            }
        }
    }

    private void askGames() {
        for (int i = -1; i < 9; i++) {
            note("rests", i, x.rests(i));
        }
        for (int row : new int[] {0, 1, 2, 10, 11, 12, 111, 112, 210, 222, 11111}) {
            for (int p = 0; p < 5; p++) {
                note("share", row, p, x.share(row, p));
            }
        }
        note("bribes(5, 7, 6, 1)", x.bribes(5, 7, 6, 1));
    }

    private void askTape() {
        for (int i = 0; i < 12; i++) {
            int length = x.count(5);
            note("bytes of the TAPE", length);
            for (int sort = 0; sort < 3; sort++) {
                note("fault", sort, x.fault(sort));
            }
            note("end", length - 1, x.end(length - 1) ? 1 : 0);
        }
        Due.feed(x, ";r;p");
        for (int sort = 0; sort < 3; sort++) {
            note("fault behind more, ", sort, x.fault(sort));
        }
    }

    private void askUndone(int acts) {
        for (int i = 0; i < acts; i++) {
            note("undo()", x.undo());
        }
        askStand();
        askLog();
    }

    private void askUndoneAll() {
        for (int i = 0; i < 42; i++) {
            note("undo()", x.undo());
            note("HOUR undone to", x.count(7));
            note("LOG undone to", x.count(10));
            askParish(i % 6, 3);
            askParish(i % 6, 4);
        }
    }

    private void askBack() {
        note("back()", x.back());
        askStand();
        note("undo()", x.undo());
        note("go", 30, x.go(30));
        askStand();
    }

    private void askPerformed() {
        for (int o = 0; o < 4; o++) {
            note("perform", o, x.perform(o));
            askStand();
        }
    }

    private void askYears() {
        note("go", 1, x.go(1));
        askStand();
        note("toil", 9, x.toil(9));
        askStand();
        note("years", 60, x.years(60, 99));
        askStand();
    }

    private void askTold() {
        for (int sort = 0; sort < 3; sort++) {
            note("text", sort, x.text(sort));
            askCounts();
        }
        askStand();
        note("a RULE", Due.text(x, 1, "y:7"));
        note("ORDERS", Due.text(x, 2, "h;w3"));
        note("a HILL", Due.text(x, 0, "sa3;p;d;r"));
        note("file(0, 0)", x.file(0, 0));
        note("go", 5, x.go(5));
        askStand();
    }
}
