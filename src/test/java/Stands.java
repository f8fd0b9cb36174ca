/** How an object may stand: what the edges are tried on. */
final class Stands {
    /** Four PARISHES of which the last one's FORM is in a ring, two DESKS, six PAPERS. */
    static final String HILL = "sa6l12;pn9;pf1z9n5;pf2n24z3;pf3;d;do9c11t3e7;r;rd1n0;rn0m1;rn4;rn3;r";
    /** As many of each as there may be. */
    static final String WIDE = "sa6l24;pf7n24;pf6z9;pf5z9;pf4z9;pf3z9;pn3z9;d;dt2;do8c9;do23t9;r;r;rd1;rd2;r;rn0m1;rn2;rd3";

    private Stands() {
    }

    static void nothing(SunDesk x) {
    }

    static void textsAlone(SunDesk x) {
        Due.text(x, 1, "y:h<9?0;y:1");
        Due.text(x, 1, "y:1");
        Due.text(x, 2, "f00;h;f01;w0;h");
        Due.text(x, 2, "w1;h");
        x.rule(1);
        x.eclipse(30);
        Due.feed(x, "p;d");
    }

    /** HOUR 10: PARISH 0 had light, 1 waits for PAPER 1 with an hour done, 2 waits for PAPER 0, 3 is idle; SEEN by two, an IMAGE. */
    static void played(SunDesk x) {
        textsAlone(x);
        Due.text(x, 0, HILL);
        x.file(0, 0);
        x.file(1, 0);
        x.file(2, 5);
        x.go(3);
        x.file(1, 1);
        x.image();
        x.go(7);
        x.file(2, 0);
        x.see(0, 9);
        x.see(1, 5);
        Due.feed(x, "f00;h;x");
    }

    /** The same, brought back to its IMAGE: no ACT can be UNDONE. */
    static void broughtBack(SunDesk x) {
        played(x);
        x.back();
    }

    /** All that has a bound is full: RULES, ORDERS, STEPS, the TAPE, the LOG, ACTS, SEEN, the HOUR, ECLIPSE. */
    static void full(SunDesk x) {
        for (int i = 0; i < 4; i++) {
            Due.text(x, 1, "y:h>" + i + "?1");
            Due.text(x, 2, i == 3 ? "h;".repeat(15) + "h" : "f0" + i + ";f10;h");
        }
        x.rule(3);
        x.eclipse(99);
        Due.text(x, 0, WIDE);
        x.toil(48);
        Due.pass(x, 9840);
        x.file(5, 7);
        x.image();
        x.go(111);
        for (int i = 0; i < 12; i++) {
            x.see(i % 6, i < 6 ? 0 : 24);
        }
        Due.feed(x, "p;d;r" + " ".repeat(235));
    }
}
