/** Promises 1 to 5, 10, 11 and 19: what is fed, and what the texts tell. */
public final class TextPromisesTest {
    private static final Due DUE = new Due("texts");

    public static void main(String[] args) {
        promise1();
        promise2();
        promise3();
        promise4Hill();
        promise4HillBounds();
        promise4Rule();
        promise4Orders();
        promise5Hill();
        promise5Rules();
        promise5Orders();
        promise10();
        promise11();
        promise19();
        DUE.close();
    }

    private static void promise1() {
        SunDesk x = new SunDesk();
        int[] counts = {0, 0, 0, 0, 0, 0, -1, 0, 0, 0, 0, 0};
        for (int what = 0; what < counts.length; what++) {
            DUE.is("count(" + what + ") of a new object", x.count(what), counts[what]);
        }
        DUE.is("sun(0) without a HILL", x.sun(0), -1);
        DUE.is("desk(0, 0) without a HILL", x.desk(0, 0), -1);
        DUE.is("paper(0, 0) without a HILL", x.paper(0, 0), -1);
        DUE.isMissing(x, 0, 0);
    }

    private static void promise2() {
        SunDesk x = new SunDesk();
        DUE.is("no bytes", x.feed(0, 0, 0, 0, 0), 0);
        DUE.is("bytes of 0 are left out", x.feed(0x70000000, 0x00003b00, 0, 0x64, 0x003b0072), 5);
        DUE.is("highest first", x.fault(0), -1);
        DUE.is("negative numbers are bytes too", x.feed(-1, 0, 0, 0, 0), 9);
        DUE.is("a byte above 127 is wrong", x.fault(0), 5);
        x.end(0);
        for (int i = 1; i <= 12; i++) {
            DUE.is("feed " + i, x.feed(0x20202020, 0x20202020, 0x20202020, 0x20202020, 0x20202020), 20 * i);
        }
        DUE.is("none more", x.feed(0, 0, 0, 0, 1), -1);
        DUE.is("still 240", x.count(5), 240);
        DUE.is("zeroes are none", x.feed(0, 0, 0, 0, 0), 240);
        x.end(239);
        DUE.is("two do not go in", x.feed(0x20200000, 0, 0, 0, 0), -1);
        DUE.is("nor two of two numbers", x.feed(1, 1, 0, 0, 0), -1);
        DUE.is("nor two of others", x.feed(0, 1, 1 << 8, 0, 0), -1);
        DUE.is("nor two of others", x.feed(0, 0, 1 << 16, 1 << 24, 0), -1);
        DUE.is("nor two of others", x.feed(0, 0, 0, 1, 1), -1);
        DUE.is("still 239", x.count(5), 239);
        DUE.is("one does", x.feed(0, 0, 0x2000, 0, 0), 240);
    }

    private static void promise3() {
        SunDesk x = new SunDesk();
        DUE.is("end(0) of nothing", x.end(0), true);
        DUE.is("end(1) of nothing", x.end(1), false);
        Due.feed(x, "p;d;rxx");
        DUE.is("end(8)", x.end(8), false);
        DUE.is("end(-1)", x.end(-1), false);
        DUE.is("nothing is lost", x.count(5), 7);
        DUE.is("end(7)", x.end(7), true);
        DUE.is("all are there", x.count(5), 7);
        DUE.is("end(5)", x.end(5), true);
        DUE.is("the first five", x.text(0), 1);
    }

    private static void faults(int sort, Object... textsAndPlaces) {
        SunDesk x = new SunDesk();
        for (int i = 0; i < textsAndPlaces.length; i += 2) {
            String text = (String) textsAndPlaces[i];
            DUE.is("fault(" + sort + ") of \"" + text + "\"", Due.fault(x, sort, text), (Integer) textsAndPlaces[i + 1]);
        }
    }

    private static void promise4Hill() {
        faults(3, "p;d;r", -2);
        faults(-1, "", -2);
        faults(0, "p;d;r", -1, "r;p;d;s", -1, "s;p;d;r", -1, " s ; p ; d ; r ", -1, "", 0, "   ", 3, "p", 1, "p;", 2, "p;d", 3, "p;d;", 4,
            "d;r", 3, "p;r", 3, ";p;d;r", 0, "p;;d;r", 2, "p;d;r;", 6, "p;d;r;x", 6, "p d;r", 2, "P;d;r", 0, "p,d;r", 1,
            "s;s;p;d;r", 2, "p;p;p;p;p;p;p;d;r", 12, "p;d;d;d;d;d;r", 10, "p;d;r;r;r;r;r;r;r;r;r", 20,
            "p;p;p;p;p;p;d;d;d;d;r;r;r;r;r;r;r;r;s", -1,
            "pf0f0;d;r", 3, "pf0n1z2f;d;r", 7, "pn1 n2;d;r", 4, "sa1l2a3;p;d;r", 5, "s f1;p;d;r", 2, "do1o2;p;r", 3, "rd0n8m8n8;p;d", 7);
    }

    private static void promise4HillBounds() {
        faults(0, "sa23;p;d;r", -1, "sa24;p;d;r", 3, "sl24;p;d;r", -1, "sl25;p;d;r", 3, "sa0l0;p;d;r", -1, "sa00l00;p;d;r", -1,
            "sa9;p;d;r", -1, "sa99;p;d;r", 3, "sa999;p;d;r", 4, "sa001;p;d;r", 4, "sa;p;d;r", 2, "sa 1;p;d;r", -1, "sa1 2;p;d;r", 4, "sa", 2,
            "pf8;d;r", 2, "pf08;d;r", 3, "pf7;d;r", 7, "pf7;d;r;r;r;r;r;r;r;r", -1, "pn0;d;r", 2, "pn00;d;r", 3, "pn1;d;r", -1,
            "pn24;d;r", -1, "pn25;d;r", 3, "pz0;d;r", -1, "pz9;d;r", -1, "pz10;d;r", 3, "pz-1;d;r", 2,
            "do23;p;r", -1, "do24;p;r", 3, "dc0;p;r", 2, "dc1;p;r", -1, "dc24;p;r", -1, "dc25;p;r", 3, "dt0;p;r", 2, "dt9;p;r", -1, "dt10;p;r", 3,
            "de0;p;r", -1, "de9;p;r", -1, "de10;p;r", 3, "do5c5;p;r", 9, "do5c6;p;r", -1, "do6c5;p;r", 9, "d;do9c9;p;r;", 12,
            "rd3;p;d;d;d;d", -1, "rd3;p;d;d;d", 11, "rd4;p;d;d;d;d", 2, "rn8m8;p;d", -1, "rn9;p;d", 2, "rm9;p;d", 2, "rn0;p;d", -1,
            "rn1;p;d", 7, "rm1;p;d", 7, "rm1;p;d;r", -1, "rn8;p;d;x", 8, "pf1;d;r;x", 8);
    }

    private static void promise4Rule() {
        faults(1, "y:1", -1, "y:9999", -1, "y:99999", 6, "y:00001", 6, "", 0, "y", 1, "y:", 2, "x:1", 0, "y1", 1, "y:1;", 4, "y:1;y", 5,
            "y:1;y:2", -1, "y:1;;y:2", 4, " y : 1 + h ", -1, "y:h d", 4, "y:1 2", 4, "y:q", 2, "y:hdwkpnz", 3, "y:h+d-w*k/p+n-z", -1,
            "y:+1", 2, "y:1+", 4, "y:1+;", 4, "y:[1]", -1, "y:[1", 4, "y:[1)", 4, "y:1]", 3, "y:[]", 3, "y:[1=1]", 4,
            "y:h=1", 5, "y:h=1;", 5, "y:h=1?2", -1, "y:h=1?", 6, "y:h?1", 3, "y:h=1=2?3", 5, "y:h=1?2=3", 7, "y:h=1?2?3", 7,
            "y:(h=1)?2", -1, "y:(h=1)", 7, "y:(h)", 4, "y:(h=1?2", 6, "y:(h=1)+1", 7, "y:(h=1)=1", 7, "y:(h=1))", 7, "y:()", 3,
            "y:!h=1?2", -1, "y:!h", 4, "y:!h?", 4, "y:!!h=1?2", -1, "y:h=!1", 4, "y:h=(1)", 4, "y:h=[1]?1", -1, "y:h=1?(", 6, "y:h=1?!", 6,
            "y:h=1&d=2|w=3?4", -1, "y:h&d=1?2", 3, "y:h=1&2?3", 7, "y:h=1&?3", 6, "y:h=1|!(k<2&p>3)?4", -1, "y:h=1 ? 2 ; y : 3", -1);
        faults(1, "y:[[[[[[1]]]]]]", -1, "y:[[[[[[[1]]]]]]]", 8, "y:!!!!!!h=1?1", -1, "y:!!!!!!!h=1?1", 8, "y:((((((h=1))))))?1", -1,
            "y:(((((((h=1)))))))?1", 8, "y:!(!([[h]]=1))?1", -1, "y:!(!([[[h]]]=1))?1", 8, "y:!!!!!!h=1&!!!!!!h=2?1", -1,
            "y:!!!!!!h=1&[h]=2?1", -1, "y:!!!!!!h=[1]?1", 10, "y:(((((((", 8, "y:[[[]]]", 5, "y:!h=1&!!!!!!!h=2?1", 13, "y:h+1=2&!!!!!!!h=2?1", 14, "y:(h=1)&!!!!!!!h=2?1", 14, "y:!(h=1)&(((((((", 15, "y:[h]+[[[[[[[", 12, "y:!(h=1)&!(h=2)|!(h=3)&!!!!!(h=4)?1", -1);
    }

    private static void promise4Orders() {
        faults(2, "h", -1, "", 0, "  ", 2, "h;h", -1, "h;", 2, ";h", 0, "hh", 1, "f00", -1, "f99", -1, "f 0 0", -1, "f0", 2, "f", 1, "f000", 3,
            "fx0", 1, "f0;", 2, "w0", -1, "w", 1, "w 9 ", -1, "w00", 2, "h0", 1, "F00", 0, "x", 0, "h ; w 1 ; f 2 3", -1);
        faults(2, "h;".repeat(15) + "h", -1, "h;".repeat(16), 31, "h;".repeat(16) + "h", 31, "h;".repeat(15) + "h  ;h", 33, "h;".repeat(15) + "hx", 31);
    }

    private static void promise5Hill() {
        SunDesk x = new SunDesk();
        DUE.is("text(3)", Due.text(x, 3, "h"), -1);
        DUE.is("text(-1)", x.text(-1), -1);
        DUE.is("it stays", x.count(5), 1);
        DUE.is("a FAULT", Due.text(x, 0, "p;d"), -1);
        DUE.is("it stays", x.count(5), 3);
        Due.feed(x, ";r;p");
        DUE.is("a HILL", x.text(0), 2);
        DUE.is("the TAPE is empty", x.count(5), 0);
        Due.text(x, 1, "y:1");
        x.rule(0);
        Due.text(x, 2, "h");
        x.eclipse(7);
        x.see(0, 3);
        x.image();
        x.file(0, 0);
        x.go(30);
        DUE.is("without a text it is as it was", x.text(0), -1);
        DUE.is("its HOUR", x.count(7), 30);
        DUE.is("a HILL anew", Due.text(x, 0, "sa5l7;p;d;d;r;r;r"), 1);
        int[] counts = {1, 2, 3, 1, 1, 0, 0, 0, 7, 0, 0, 0, -1000000};
        for (int what = 0; what < counts.length; what++) {
            DUE.is("count(" + what + ") of another HILL", x.count(what), counts[what]);
        }
        int[] parish = {0, 6, 5, 0, -1, 0, 0, 0, 0};
        for (int what = 0; what < parish.length; what++) {
            DUE.is("parish(0, " + what + ") of another HILL", x.parish(0, what), parish[what]);
        }
        DUE.is("nobody waits", x.desk(0, 4), 0);
        DUE.is("no IMAGE of this HILL", x.back(), -1);
        DUE.is("no ACT of this HILL", x.undo(), -1);
        DUE.is("no row of this HILL", x.log(0, 0), -1);
    }

    private static void promise5Rules() {
        SunDesk x = new SunDesk();
        for (int i = 0; i < 4; i++) {
            DUE.is("RULE " + i, Due.text(x, 1, "y:" + i), i);
        }
        DUE.is("a fifth", Due.text(x, 1, "y:5"), -1);
        DUE.is("it stays", x.count(5), 3);
        DUE.is("there are four", x.count(3), 4);
        DUE.is("none holds by itself", x.count(6), -1);
        DUE.is("it is no FAULT", x.fault(1), -1);
        DUE.is("ORDERS are others", Due.text(x, 2, "h"), 0);
    }

    private static void promise5Orders() {
        SunDesk x = new SunDesk();
        for (int i = 0; i < 4; i++) {
            DUE.is("ORDERS " + i, Due.text(x, 2, "w" + i), i);
        }
        DUE.is("a fifth", Due.text(x, 2, "h"), -1);
        DUE.is("it stays", x.count(5), 1);
        for (int i = 0; i < 4; i++) {
            DUE.is("ORDERS " + i + " are as told", x.step(i, 0, 1), i);
        }
    }

    private static void promise10() {
        SunDesk x = new SunDesk();
        DUE.is("rule(0) without any", x.rule(0), false);
        DUE.is("rule(-1)", x.rule(-1), true);
        Due.text(x, 1, "y:1");
        Due.text(x, 1, "y:0");
        DUE.is("rule(1)", x.rule(1), true);
        DUE.is("it holds", x.count(6), 1);
        DUE.is("rule(2)", x.rule(2), false);
        DUE.is("rule(-2)", x.rule(-2), false);
        DUE.is("it holds on", x.count(6), 1);
        DUE.is("rule(1) again", x.rule(1), true);
        DUE.is("rule(-1)", x.rule(-1), true);
        DUE.is("none holds", x.count(6), -1);
    }

    private static void promise11() {
        SunDesk x = new SunDesk();
        DUE.is("it is 0", x.eclipse(0), false);
        DUE.is("eclipse(-1)", x.eclipse(-1), false);
        DUE.is("eclipse(100)", x.eclipse(100), false);
        DUE.is("eclipse(99)", x.eclipse(99), true);
        DUE.is("it is so", x.eclipse(99), false);
        DUE.is("count(8)", x.count(8), 99);
        DUE.is("eclipse(0)", x.eclipse(0), true);
        DUE.is("count(8)", x.count(8), 0);
    }

    private static void promise19() {
        SunDesk x = new SunDesk();
        Due.text(x, 2, "f12;w3;h");
        int[][] steps = {{0, 1, 2}, {1, 3, -1}, {2, -1, -1}};
        for (int i = 0; i < 3; i++) {
            for (int what = 0; what < 3; what++) {
                DUE.is("step(0, " + i + ", " + what + ")", x.step(0, i, what), steps[i][what]);
            }
            DUE.is("step(0, " + i + ", 3)", x.step(0, i, 3), -1);
            DUE.is("step(0, " + i + ", -1)", x.step(0, i, -1), -1);
        }
        DUE.is("step(0, 3, 0)", x.step(0, 3, 0), -1);
        DUE.is("step(0, -1, 0)", x.step(0, -1, 0), -1);
        DUE.is("step(1, 0, 0)", x.step(1, 0, 0), -1);
        DUE.is("step(-1, 0, 0)", x.step(-1, 0, 0), -1);
    }
}
