/** The edges of what ORDERS may be and of what becomes of their STEPS. */
public final class OrdersEdgeTest {
    private static final Due DUE = new Due("orders' edges");

    public static void main(String[] args) {
        fourOrders();
        oneToSixteenSteps();
        digitsOfAStep();
        signsOfAStep();
        blanks();
        endsTooEarly();
        whoIsNotThere();
        sorts();
        runStops();
        atHour9999();
        doAsActs();
        hoursOfOrders();
        textsOneBehindTheOther();
        DUE.close();
    }

    private static void fault(String text, int want) {
        DUE.is("FAULT of \"" + text + "\"", Due.fault(new SunDesk(), 2, text), want);
    }

    private static void right(String text) {
        fault(text, -1);
    }

    private static void fourOrders() {
        DUE.says("Terms", "ORDERS (4 at most)");
        SunDesk x = new SunDesk();
        for (int i = 0; i < 4; i++) {
            DUE.is("ORDERS " + i, Due.text(x, 2, "h;".repeat(i) + "w" + i), i);
            DUE.is("how many", x.count(4), i + 1);
            DUE.is("the TAPE is empty", x.count(5), 0);
        }
        DUE.is("a fifth", Due.text(x, 2, "w5"), -1);
        DUE.is("how many", x.count(4), 4);
        DUE.is("the TAPE stays", x.count(5), 2);
        DUE.is("it is no FAULT", x.fault(2), -1);
        for (int i = 0; i < 4; i++) {
            DUE.is("the last STEP of ORDERS " + i, x.step(i, i, 1), i);
            DUE.is("none behind it", x.step(i, i + 1, 0), -1);
        }
    }

    private static void oneToSixteenSteps() {
        DUE.says("Terms", "are TEXTS: STEPS with ; between, 1 to 16");
        DUE.says("Terms", "the ; ahead of a 17th STEP");
        fault("", 0);
        fault("  ", 2);
        fault(";", 0);
        fault(";h", 0);
        for (String step : new String[] {"h", "w3", "f12", "f 1 2"}) {
            for (int many = 1; many <= 16; many++) {
                String text = (step + ";").repeat(many - 1) + step;
                right(text);
                SunDesk x = new SunDesk();
                DUE.is("told", Due.text(x, 2, text), 0);
                DUE.is("the last STEP", x.step(0, many - 1, 0), step.charAt(0) == 'f' ? 0 : step.equals("h") ? 2 : 1);
                DUE.is("no more", x.step(0, many, 0), -1);
                if (many < 16) {
                    fault(text + ";", text.length() + 1);
                    fault(text + ";;", text.length() + 1);
                } else {
                    fault(text + ";", text.length());
                    fault(text + ";" + step, text.length());
                    fault(text + "  ;" + step, text.length() + 2);
                    fault(text + ";" + step + ";" + step, text.length());
                    fault(text + ";x", text.length());
                    fault(text + "x;", text.length());
                }
            }
        }
    }

    private static void digitsOfAStep() {
        DUE.says("Terms", "f and two digits (PARISH, PAPER: it FILES), w and a digit (PARISH: it WITHDRAWS), h (an HOUR).");
        for (int i = 0; i < 10; i++) {
            right("w" + i);
            fault("w" + i + "0", 2);
            fault("f" + i, 2);
            fault("h" + i, 1);
            for (int k = 0; k < 10; k++) {
                right("f" + i + k);
                fault("f" + i + k + i, 3);
                SunDesk x = new SunDesk();
                Due.text(x, 2, "f" + i + k + ";w" + k);
                DUE.is("PARISH", x.step(0, 0, 1), i);
                DUE.is("PAPER", x.step(0, 0, 2), k);
                DUE.is("PARISH that WITHDRAWS", x.step(0, 1, 1), k);
                DUE.is("it has no PAPER", x.step(0, 1, 2), -1);
            }
        }
        fault("f", 1);
        fault("w", 1);
        fault("f;", 1);
        fault("w;", 1);
        fault("f1;", 2);
    }

    private static void signsOfAStep() {
        for (int b = 1; b < 256; b++) {
            char c = (char) b;
            boolean digit = c >= '0' && c <= '9';
            fault("" + c, c == 'h' ? -1 : c == 'f' || c == 'w' || c == ' ' ? 1 : 0);
            fault("w" + c, digit ? -1 : c == ' ' ? 2 : 1);
            fault("f" + c, digit || c == ' ' ? 2 : 1);
            fault("f1" + c, digit ? -1 : c == ' ' ? 3 : 2);
            fault("f12" + c, c == ' ' ? -1 : c == ';' ? 4 : 3);
            fault("w1" + c, c == ' ' ? -1 : c == ';' ? 3 : 2);
            fault("h" + c, c == ' ' ? -1 : c == ';' ? 2 : 1);
            fault("h;" + c, c == 'h' ? -1 : c == 'f' || c == 'w' || c == ' ' ? 3 : 2);
        }
    }

    private static void blanks() {
        DUE.says("Terms", "(between letters and digits of a STEP they may)");
        String text = "f12;w3;h;f00;h";
        for (int i = 0; i <= text.length(); i++) {
            right(text.substring(0, i) + " " + text.substring(i));
            right(text.substring(0, i) + "     " + text.substring(i));
            fault(text.substring(0, i) + (char) 9 + text.substring(i), i);
            fault(text.substring(0, i) + (char) 160 + text.substring(i), i);
        }
        SunDesk x = new SunDesk();
        Due.text(x, 2, "  f  1  2  ;  w  3  ;  h  ");
        int[][] want = {{0, 1, 2}, {1, 3, -1}, {2, -1, -1}};
        for (int i = 0; i < 3; i++) {
            for (int what = 0; what < 3; what++) {
                DUE.is("step(0, " + i + ", " + what + ")", x.step(0, i, what), want[i][what]);
            }
        }
    }

    private static void endsTooEarly() {
        String text = "f12;w3;h";
        for (int n = 0; n <= text.length(); n++) {
            boolean whole = n == 3 || n == 6 || n == 8;
            fault(text.substring(0, n), whole ? -1 : n);
            fault(text.substring(0, n) + " ", whole ? -1 : n + 1);
        }
        for (int n = 0; n <= text.length(); n++) {
            for (int b = 1; b < 256; b++) {
                String begun = text.substring(0, n) + (char) b;
                fault(begun, Grammar.fault(2, begun));
            }
        }
    }

    private static void whoIsNotThere() {
        DUE.says("Terms", "(A PARISH, a PAPER of a STEP that is not there is no FAULT: the STEP can't be.)");
        for (int i = 0; i < 10; i++) {
            SunDesk x = Due.ordered("p;p;p;d;r;r", "f" + i + "0", "f0" + i, "w" + i);
            DUE.is("f" + i + "0 is told", x.count(4), 3);
            DUE.is("run of f" + i + "0", x.run(0), i < 3 ? -1 : 0);
            DUE.is("run of f0" + i, x.run(1), i < 2 ? -1 : 0);
            DUE.is("run of w" + i, x.run(2), 0);
            DUE.is("do f" + i + "0", x.perform(0), i < 3 ? 1 : 0);
            DUE.is("ACTS", x.count(11), i < 3 ? 1 : 0);
            DUE.is("do w" + i, x.perform(2), i < 3 ? 1 : 0);
        }
    }

    private static void sorts() {
        DUE.says("Promise 19", "A STEP of ORDERS: 0 its sort (0 f, 1 w, 2 h), 1 the PARISH, 2 the PAPER (NONE: it has none).");
        SunDesk x = new SunDesk();
        Due.text(x, 2, "f07;w9;h");
        int[][] want = {{0, 0, 7}, {1, 9, -1}, {2, -1, -1}};
        for (int i = 0; i < 3; i++) {
            for (int what = 0; what < 3; what++) {
                DUE.is("step(0, " + i + ", " + what + ")", x.step(0, i, what), want[i][what]);
            }
        }
    }

    private static void runStops() {
        DUE.says("3", "RUN of ORDERS (apart): behind how many STEPS the first is that can't be");
        DUE.says("Promise 20", "RUN: behind how many (NONE: all can be).");
        String hill = "sa9;p;p;d;r;rn0";
        for (int at = 0; at < 16; at++) {
            String text = "h;".repeat(at) + "w0" + ";h".repeat(15 - at);
            SunDesk x = Due.ordered(hill, text);
            String before = Due.stand(x);
            DUE.is("run of " + text, x.run(0), at);
            DUE.same("it is apart", Due.stand(x), before);
            DUE.is("do " + text, x.perform(0), at);
            DUE.is("HOURS", x.count(7), at);
            DUE.is("ACTS", x.count(11), at);
        }
        SunDesk x = Due.ordered(hill, "h;".repeat(15) + "h", "f00;f10;h;f01;w0;w1", "f00;f00", "f00;h;f00");
        DUE.is("all sixteen can be", x.run(0), -1);
        DUE.is("each of these can be", x.run(1), -1);
        DUE.is("it waits", x.run(2), 1);
        DUE.is("it holds it", x.run(3), 2);
        DUE.is("it does not hold what that WANTS", Due.ordered(hill, "f01").run(0), 0);
        DUE.is("it waits nowhere", Due.ordered(hill, "f00;w0;w0").run(0), 2);
    }

    private static SunDesk at(int hour, String... orders) {
        SunDesk x = Due.ordered("p;d;r", orders);
        Due.pass(x, hour);
        DUE.is("HOUR", x.count(7), hour);
        return x;
    }

    private static void atHour9999() {
        DUE.says("3", "(an h at HOUR 9999 can't)");
        SunDesk x = at(9998, "h", "h;h", "f00;h;h;f00");
        DUE.is("at HOUR 9998 it can", x.run(0), -1);
        DUE.is("the second h can't", x.run(1), 1);
        DUE.is("the second h can't", x.run(2), 2);
        DUE.is("done", x.perform(1), 1);
        DUE.is("HOUR", x.count(7), 9999);
        DUE.is("at HOUR 9999 it can't", x.run(0), 0);
        DUE.is("none is done", x.perform(0), 0);
        DUE.is("HOUR", x.count(7), 9999);
        DUE.is("what is no h can", x.perform(2), 1);
        DUE.is("it waits", x.parish(0, 4), 0);
    }

    /** An h is an HOUR as by go: at DAWN there is light, whatever ECLIPSE is. */
    private static void hoursOfOrders() {
        String orders = "f00;h;h;f00;h";
        SunDesk x = Due.ordered("sa1;p;d;r", orders);
        x.eclipse(99);
        DUE.is("its FORM is gone at DAWN, so it may FILE it again", x.run(0), -1);
        DUE.is("all are done", x.perform(0), 5);
        DUE.is("it had light", x.parish(0, 6), 6);
        DUE.is("LOG", x.log(0, 0), 1);
        DUE.is("hours", x.log(0, 1), 6);
        DUE.is("it holds it again", x.parish(0, 3), 1);
        SunDesk ruled = Due.ordered("sa9;p;d;r;rn0", "f00;h;f01");
        Due.text(ruled, 1, "y:0");
        ruled.rule(0);
        DUE.is("REFUSED by the RULE that holds", ruled.run(0), 2);
        DUE.is("done up to there", ruled.perform(0), 2);
        DUE.is("REFUSED", ruled.parish(0, 8), 1);
        ruled.rule(-1);
        DUE.is("GRANTED without", ruled.run(0), -1);
    }

    /** What was read ahead of it, right or not, leaves nothing behind. */
    private static void textsOneBehindTheOther() {
        String[] texts = {"f12;w3;h", "h", "h;h;h;h;h;h;h;h;h;h;h;h;h;h;h;h;h", "f1", "w", "w9", ";", "f00;x", ""};
        for (String first : texts) {
            for (String second : texts) {
                SunDesk x = new SunDesk();
                Due.fault(x, 2, first);
                DUE.is("FAULT of " + second + " behind " + first, Due.fault(x, 2, second), Due.fault(new SunDesk(), 2, second));
                DUE.is("text of " + first, Due.text(x, 2, first) >= 0, Grammar.fault(2, first) == -1);
                int told = Due.text(x, 2, second);
                for (int i = 0; i < 4 && told >= 0; i++) {
                    SunDesk alone = new SunDesk();
                    Due.text(alone, 2, second);
                    for (int what = 0; what < 3; what++) {
                        DUE.is("STEP " + i + " of " + second + " behind " + first, x.step(told, i, what), alone.step(0, i, what));
                    }
                }
            }
        }
    }

    private static void doAsActs() {
        DUE.says("3", "DO: its STEPS as ACTS, up to there.");
        DUE.says("Promise 21", "DO: how many STEPS were done.");
        SunDesk x = Due.ordered("sa9;p;p;dt2;r;rn0", "f00;f10;h;h;w1;f11;h");
        String[] stands = new String[8];
        SunDesk apart = Due.ordered("sa9;p;p;dt2;r;rn0", "f00;f10;h;h;w1;f11;h");
        stands[0] = Due.stand(apart);
        apart.file(0, 0);
        stands[1] = Due.stand(apart);
        apart.file(1, 0);
        stands[2] = Due.stand(apart);
        apart.go(1);
        stands[3] = Due.stand(apart);
        apart.go(1);
        stands[4] = Due.stand(apart);
        apart.withdraw(1);
        stands[5] = Due.stand(apart);
        DUE.is("run", x.run(0), 5);
        DUE.is("do", x.perform(0), 5);
        for (int i = 5; i >= 0; i--) {
            DUE.same("behind " + i + " STEPS", Due.stand(x), stands[i]);
            DUE.is("undo", x.undo(), i - 1);
        }
    }
}
