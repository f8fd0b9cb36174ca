/** Promises 23 to 27: what is needed, rings, rows, what would have to be waived. */
public final class RoutePromisesTest {
    private static final Due DUE = new Due("routes");

    public static void main(String[] args) {
        promise23And24();
        promise25();
        promise25Closed();
        promise25Held();
        promise26();
        promise27();
        DUE.close();
    }

    private static void promise23And24() {
        SunDesk x = Due.hill("p;d;r;rn0;rn1m0;rn4;rm5;rn3;rn5;rn7m0");
        int[] needed = {1, 3, 7, 56, 56, 56, 120, 129};
        for (int r = 0; r < 8; r++) {
            DUE.is("needed(" + r + ")", x.needed(r), needed[r]);
        }
        DUE.is("needed(8)", x.needed(8), -1);
        DUE.is("needed(-1)", x.needed(-1), -1);
        DUE.is("ring", x.ring(), 8 + 16 + 32 + 128);
        SunDesk y = Due.hill("p;d;r;rn0;rn1");
        DUE.is("needed(1)", y.needed(1), 3);
        DUE.is("needed(3)", y.needed(3), -1);
        DUE.is("no ring", y.ring(), 0);
        DUE.is("a ring of one", Due.hill("p;d;rn0").ring(), 1);
        DUE.is("who only needs a ring is not in it", Due.hill("p;d;rn1;rn2;rn1").ring(), 6);
        DUE.is("two rings", Due.hill("p;d;rn1;rn0;rn3;rn2;rn0m2").ring(), 15);
        DUE.is("no HILL", new SunDesk().ring(), -1);
        DUE.is("no HILL", new SunDesk().needed(0), -1);
    }

    private static void soonest(SunDesk x, int parish, int hours, int row, int fees) {
        DUE.is("hours of " + parish, x.soonest(parish, 0), hours);
        DUE.is("row of " + parish, x.soonest(parish, 1), row);
        DUE.is("fees of " + parish, x.soonest(parish, 2), fees);
    }

    private static void promise25() {
        SunDesk x = Due.hill("pf3;pf4;pf5;p;dt2e3;dt5e9;r;rd1;r;rn1m0;rn2;rn6;rn5");
        soonest(x, 0, 9, 13, 15);
        DUE.is("the least row has PAPER 0 first", x.soonest(0, 1), 13);
        soonest(x, 1, 4, 24, 6);
        soonest(x, 2, -1, -1, -1);
        soonest(x, 3, 2, 0, 3);
        DUE.is("soonest(4, 0)", x.soonest(4, 0), -1);
        DUE.is("soonest(-1, 0)", x.soonest(-1, 0), -1);
        DUE.is("soonest(0, 3)", x.soonest(0, 3), -1);
        DUE.is("soonest(0, -1)", x.soonest(0, -1), -1);
        DUE.is("no HILL", new SunDesk().soonest(0, 0), -1);
        SunDesk deep = Due.hill("pf7;d;r;rn0;rn1;rn2;rn3;rn4;rn5;rn6");
        soonest(deep, 0, 8, 1234567, 8);
        SunDesk toiled = Due.hill("pf7;d;r;rn0;rn1;rn2;rn3;rn4;rn5;rn6;sa23");
        toiled.toil(8);
        DUE.is("all eight", toiled.parish(0, 3), 255);
        SunDesk wide = Due.hill("p;d;rn1m2;rn3m4;rn5m6;r;r;rn7;r;r");
        soonest(wide, 0, 8, 34167520, 8);
    }

    private static void promise25Closed() {
        // PAPER 0 at a DESK that opens late, PAPER 1 at one that closes early: first 1, else a day is lost.
        SunDesk x = Due.hill("pf2;do10c12;dc2;d;r;rd1;rd2n0m1");
        soonest(x, 0, 12, 102, 3);
        x.go(1);
        soonest(x, 0, 11, 102, 3);
        x.go(1);
        // Now 1 is had tomorrow: 0 may come ahead of it or not, and 0 first is less but for the hours.
        soonest(x, 0, 24, 12, 3);
        x.go(9);
        soonest(x, 0, 15, 12, 3);
        x.go(1);
        soonest(x, 0, 24, 102, 3);
        // Behind nine hours for PAPER 0 the DESK of 1 opens next, though that of 2 would have ahead of them.
        soonest(Due.hill("pf3;dt9;do10c12;do6c8;r;rd1n0;rd2n0;rn1m2"), 0, 40, 123, 4);
        soonest(Due.hill("pf3;dt8;do10c12;do6c9;r;rd1n0;rd2n0;rn1m2"), 0, 19, 213, 4);
        // What is not done goes on when the DESK is open again.
        SunDesk y = Due.hill("p;do23c24t9;r");
        soonest(y, 0, 24 * 9, 0, 1);
        y.go(23);
        soonest(y, 0, 24 * 8 + 1, 0, 1);
        y.go(1);
        soonest(y, 0, 24 * 9, 0, 1);
        SunDesk z = Due.hill("p;do3c5t3;r");
        int[] hours = {28, 27, 26, 25, 25, 47, 46};
        for (int h = 0; h < hours.length; h++) {
            DUE.is("at HOUR " + h, z.soonest(0, 0), hours[h]);
            z.go(1);
        }
    }

    private static void promise25Held() {
        SunDesk x = Due.hill("sa23;pf2;pf2;d;dt2;r;rd1;rn0m1");
        soonest(x, 0, 4, 12, 3);
        x.file(0, 0);
        soonest(x, 0, 4, 12, 3);
        DUE.is("even while it waits it is as if it waited nowhere", x.parish(0, 4), 0);
        x.go(1);
        soonest(x, 0, 3, 12, 2);
        x.file(0, 1);
        x.file(1, 1);
        x.go(2);
        soonest(x, 0, 1, 2, 1);
        x.file(0, 2);
        x.go(1);
        soonest(x, 0, 0, -1, 0);
        soonest(x, 1, 4, 12, 3);
        DUE.is("nobody else waits", x.desk(1, 4), 1);
        Due.text(x, 1, "y:0");
        x.rule(0);
        DUE.is("all is GRANTED", x.soonest(1, 0), 4);
        SunDesk dawn = Due.hill("sa1;pf1;pf0;d;r;rn0");
        soonest(dawn, 0, 2, 1, 2);
        x = Due.hill("sa2;p;p;pf2;d;r;rn0;rn1");
        x.file(2, 0);
        x.go(1);
        x.file(2, 1);
        x.go(1);
        soonest(x, 2, 1, 2, 1);
        SunDesk lost = Due.hill("sa2;p;pf2;d;r;rn0;rn1m0");
        lost.file(0, 0);
        lost.go(1);
        lost.file(0, 1);
        lost.go(2);
        DUE.is("it holds what its FORM was wanted for", lost.parish(0, 3), 2);
        soonest(lost, 0, 1, 0, 1);
    }

    private static void promise26() {
        SunDesk x = Due.hill("pf3;pf4;pf1;p;pf5;d;r;rn2;rn1;rn1;rn0;rn3m6;rn6");
        int[] waived = {2, 0, 2, 0, 32};
        for (int p = 0; p < 5; p++) {
            DUE.is("waived(" + p + ")", x.waived(p), waived[p]);
        }
        DUE.is("waived(5)", x.waived(5), -1);
        DUE.is("waived(-1)", x.waived(-1), -1);
        DUE.is("no HILL", new SunDesk().waived(0), -1);
        DUE.is("of several the least", Due.hill("pf2;d;rn1;rn0;rn0m1").waived(0), 1);
        DUE.is("a ring of one", Due.hill("pf1;d;r;rn1m0").waived(0), 2);
    }

    private static void promise27() {
        SunDesk x = Due.hill("sa23;pf2;pf1;pf1;pf3;d;dt2;r;rn0;rd1;rn3");
        DUE.is("the lowest of those with the fewest", x.earliest(), 0);
        x.file(2, 0);
        x.go(1);
        DUE.is("it holds what that WANTS", x.earliest(), 2);
        x.file(1, 0);
        x.go(1);
        DUE.is("the lowest of these", x.earliest(), 1);
        x.file(2, 1);
        x.go(1);
        DUE.is("it holds its FORM", x.earliest(), 2);
        DUE.is("none", Due.hill("pf0;d;rn0").earliest(), -1);
        DUE.is("one of them", Due.hill("p;pf1;d;rn0;r").earliest(), 1);
        DUE.is("no HILL", new SunDesk().earliest(), -1);
    }
}
