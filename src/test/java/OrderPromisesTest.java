/** Promises 20 to 22, 36 and 37: ORDERS, what is tried apart, images. */
public final class OrderPromisesTest {
    private static final Due DUE = new Due("orders");

    public static void main(String[] args) {
        promise20();
        promise20Ends();
        promise21();
        promise22();
        promise22Late();
        promise36And37();
        DUE.close();
    }

    private static void promise20() {
        SunDesk x = Due.ordered("sa9;p;p;d;r;rn0", "f00;h;f01;h;w0", "f00;h;f01;w0;w0;h", "f10;f10", "w1");
        String before = Due.stand(x);
        DUE.is("run(0)", x.run(0), 4);
        DUE.is("run(1)", x.run(1), 4);
        DUE.is("run(2)", x.run(2), 1);
        DUE.is("run(3)", x.run(3), 0);
        DUE.is("run(4)", x.run(4), -1000000);
        DUE.is("run(-1)", x.run(-1), -1000000);
        DUE.same("it is apart", Due.stand(x), before);
        x.file(1, 0);
        DUE.is("from how it stands now", x.run(3), -1);
        SunDesk all = Due.ordered("sa9;p;p;d;r;rn0", "f00;f10;h;h;f01;f11;h;h");
        DUE.is("all can be", all.run(0), -1);
        SunDesk none = new SunDesk();
        Due.text(none, 2, "h");
        DUE.is("no HILL", none.run(0), -1000000);
        SunDesk far = Due.ordered("sa9;p;d;r", "f10", "f09", "w9", "h;h");
        DUE.is("no such PARISH", far.run(0), 0);
        DUE.is("no such PAPER", far.run(1), 0);
        DUE.is("no such PARISH", far.run(2), 0);
        Due.text(far, 1, "y:0");
        SunDesk ruled = Due.ordered("sa9;p;d;r;rn0", "f00;h;f01");
        Due.text(ruled, 1, "y:0");
        DUE.is("granted", ruled.run(0), -1);
        ruled.rule(0);
        DUE.is("refused by the RULE that holds", ruled.run(0), 2);
        SunDesk dawn = Due.ordered("sa1;p;d;r;rn0", "f00;h;h;f01");
        DUE.is("its FORM is gone at DAWN", dawn.run(0), 3);
    }

    private static void promise20Ends() {
        SunDesk x = Due.ordered("p;d;r", "h;h;h", "f00;h;h;w0");
        for (int i = 0; i < 41; i++) {
            x.go(240);
        }
        x.go(157);
        DUE.is("HOUR 9997", x.count(7), 9997);
        DUE.is("an h at HOUR 9999 can't", x.run(0), 2);
        DUE.is("an h at HOUR 9999 can't", x.run(1), 3);
        DUE.is("two were done", x.perform(0), 2);
        DUE.is("HOUR 9999", x.count(7), 9999);
        DUE.is("none", x.run(0), 0);
        DUE.is("none", x.perform(0), 0);
    }

    private static void promise21() {
        SunDesk x = Due.ordered("sa9;p;p;d;r;rn0", "f00;h;f01;h;w0", "w1", "f10;h", "f19");
        DUE.is("perform(4)", x.perform(4), -1);
        DUE.is("perform(-1)", x.perform(-1), -1);
        DUE.is("none", x.perform(1), 0);
        DUE.is("no ACT", x.count(11), 0);
        DUE.is("up to there", x.perform(0), 4);
        DUE.is("as ACTS", x.count(11), 4);
        DUE.is("HOUR", x.count(7), 2);
        DUE.is("it holds both", x.parish(0, 3), 3);
        DUE.is("all of them", x.perform(2), 2);
        DUE.is("it holds it", x.parish(1, 3), 1);
        DUE.is("no such PAPER", x.perform(3), 0);
        DUE.is("an ACT is UNDONE", x.undo(), 5);
        DUE.is("it waits again", x.parish(1, 4), 0);
        DUE.is("it goes away", x.perform(1), 1);
        SunDesk none = new SunDesk();
        Due.text(none, 2, "h");
        DUE.is("no HILL", none.perform(0), -1);
    }

    private static void promise22() {
        SunDesk x = Due.hill("sa6l12;pn9;p;dt4;r;r");
        x.file(0, 0);
        x.file(1, 1);
        String before = Due.stand(x);
        DUE.is("ahead(0, 0, 0)", x.ahead(0, 0, 0), 0);
        DUE.is("ahead(0, 3, 0)", x.ahead(0, 3, 0), 0);
        DUE.is("ahead(0, 4, 0)", x.ahead(0, 4, 0), 1);
        DUE.is("ahead(0, 6, 0)", x.ahead(0, 6, 0), 1);
        DUE.is("ahead(0, 6, 1)", x.ahead(0, 6, 1), 0);
        DUE.is("ahead(0, 7, 0)", x.ahead(0, 7, 0), 0);
        DUE.is("ahead(0, 7, 1)", x.ahead(0, 7, 1), 9);
        DUE.is("ahead(0, 31, 1)", x.ahead(0, 31, 1), 0);
        DUE.is("ahead(1, 8, 0)", x.ahead(1, 8, 0), 2);
        DUE.is("ahead(1, 240, 0)", x.ahead(1, 240, 0), 2);
        int[][] refused = {{-1, 0, 0}, {2, 0, 0}, {0, -1, 0}, {0, 241, 0}, {0, 0, 2}, {0, 0, -1}};
        for (int[] r : refused) {
            DUE.is("ahead(" + r[0] + ", " + r[1] + ", " + r[2] + ")", x.ahead(r[0], r[1], r[2]), -1);
        }
        DUE.same("it is apart", Due.stand(x), before);
        Due.text(x, 1, "y:d");
        x.rule(0);
        DUE.is("by the RULE that holds", x.ahead(0, 4, 0), 0);
        DUE.is("no HILL", new SunDesk().ahead(0, 0, 0), -1);
    }

    private static void promise22Late() {
        SunDesk x = Due.hill("sa6;p;do20t9;r");
        for (int i = 0; i < 41; i++) {
            x.go(240);
        }
        x.go(159);
        x.file(0, 0);
        // HOUR 9999 is the 15th of its DAY; the ninth open hour is the first one of the third time that it opens.
        DUE.is("not yet", x.ahead(0, 53, 0), 0);
        DUE.is("beyond 9999", x.ahead(0, 54, 0), 1);
        DUE.is("light beyond 9999", x.ahead(0, 64, 1), 6);
        DUE.is("as far as it goes", x.ahead(0, 240, 0), 0);
        DUE.is("it is still HOUR 9999", x.count(7), 9999);
    }

    private static void promise36And37() {
        SunDesk x = new SunDesk();
        DUE.is("image without a HILL", x.image(), -1);
        DUE.is("back without a HILL", x.back(), -1);
        Due.text(x, 0, "sa2;p;p;dt2;r;r");
        DUE.is("no IMAGE", x.back(), -1);
        x.file(0, 0);
        x.file(1, 1);
        x.go(1);
        DUE.is("image", x.image(), 1);
        DUE.is("ACTS can be UNDONE on", x.count(11), 3);
        x.see(0, 3);
        String before = Due.stand(x).replaceFirst("1 0 3 ", "1 0 0 ");
        x.undo();
        x.withdraw(0);
        x.go(100);
        DUE.is("back", x.back(), 1);
        DUE.same("it is so again", Due.stand(x), before);
        DUE.is("SEEN is as it was", x.count(9), 1);
        DUE.is("no ACT can be UNDONE", x.undo(), -1);
        x.go(3);
        DUE.is("it goes on", x.parish(1, 3), 2);
        DUE.is("it goes on", x.log(0, 0), 1);
        x.go(20);
        DUE.is("back again", x.back(), 1);
        DUE.same("it is so again", Due.stand(x), before);
        x.go(4);
        DUE.is("another IMAGE", x.image(), 5);
        x.go(4);
        DUE.is("instead of the one ahead", x.back(), 5);
        DUE.is("with its LOG", x.log(0, 0), 1);
        x.back();
        x.go(1);
        x.undo();
        x.file(0, 1);
        x.go(80);
        x.back();
        DUE.is("its LOG is kept", x.log(0, 0), 1);
        DUE.is("its length is kept", x.count(10), 1);
        Due.text(x, 0, "p;d;r");
        DUE.is("no IMAGE of this HILL", x.back(), -1);
        logOfImage();
    }

    /** The rows that an IMAGE keeps are those of its own HOURS, whatever comes into the LOG meanwhile. */
    private static void logOfImage() {
        SunDesk x = Due.hill("sa0;p;d;r");
        x.file(0, 0);
        x.go(24);
        x.go(1);
        DUE.is("image", x.image(), 25);
        DUE.is("light", x.log(0, 0), 1);
        for (int i = 0; i < 25; i++) {
            x.undo();
        }
        DUE.is("HOUR", x.count(7), 0);
        x.withdraw(0);
        x.go(25);
        DUE.is("none", x.log(0, 0), 0);
        x.back();
        DUE.is("light again", x.log(0, 0), 1);
        DUE.is("none at first", x.log(1, 0), 0);
        DUE.is("rows", x.count(10), 2);
    }
}
