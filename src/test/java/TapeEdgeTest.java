/** The edges of the TAPE and of what becomes of it: promises 1 to 5, 10 and 11. */
public final class TapeEdgeTest {
    private static final Due DUE = new Due("tape's edges");

    public static void main(String[] args) {
        constants();
        nothingYet();
        highestFirst();
        zeroesAreLeftOut();
        anyByte();
        upTo240();
        oneAtATime();
        firstBytesAlone();
        nothingBehindTheEnd();
        sortsOfFault();
        emptyThen();
        whatIsGone();
        whatIsNotGone();
        ruleThatHolds();
        eclipse();
        DUE.close();
    }

    private static void constants() {
        DUE.says("Constants", "The constants: `NONE = -1`: None; refused. `HIDDEN = -1000000`: Not told.");
        DUE.is("NONE", SunDesk.NONE, -1);
        DUE.is("HIDDEN", SunDesk.HIDDEN, -1000000);
    }

    private static void nothingYet() {
        DUE.says("Promise 1", "No HILL.");
        SunDesk x = new SunDesk();
        int[] counts = {0, 0, 0, 0, 0, 0, -1, 0, 0, 0, 0, 0};
        for (int what = 0; what < counts.length; what++) {
            DUE.is("count(" + what + ")", x.count(what), counts[what]);
        }
        DUE.is("go(1)", x.go(1), -1);
        DUE.is("image()", x.image(), -1);
        DUE.isMissing(x, 0, 0);
    }

    private static void highestFirst() {
        DUE.says("Promise 2", "Twenty bytes more come to the TAPE (of each number the highest first; bytes of 0 are left out): how many it has.");
        SunDesk x = new SunDesk();
        DUE.is("twenty", x.feed(0x66303b68, 0x3b683b68, 0x3b683b68, 0x3b683b68, 0x3b683b68), 20);
        DUE.is("f0; is not right", x.fault(2), 2);
        x = new SunDesk();
        DUE.is("twenty", x.feed(0x6630303b, 0x683b683b, 0x683b683b, 0x683b683b, 0x683b6820), 20);
        DUE.is("they stand in their order", x.fault(2), -1);
        DUE.is("ORDERS", x.text(2), 0);
        for (int i = 1; i < 9; i++) {
            DUE.is("h", x.step(0, i, 0), 2);
        }
        for (int number = 0; number < 5; number++) {
            int[] w = new int[5];
            w[number] = 0x66313268;
            x = new SunDesk();
            DUE.is("four bytes of number " + number, x.feed(w[0], w[1], w[2], w[3], w[4]), 4);
            DUE.is("f12h", x.fault(2), 3);
        }
    }

    private static void zeroesAreLeftOut() {
        for (int mask = 0; mask < 32; mask++) {
            for (int place = 0; place < 4; place++) {
                int[] w = new int[5];
                for (int i = 0; i < 5; i++) {
                    w[i] = (mask >> i & 1) << 24 - 8 * place;
                }
                SunDesk x = new SunDesk();
                DUE.is("bytes", x.feed(w[0], w[1], w[2], w[3], w[4]), Integer.bitCount(mask));
                DUE.is("bytes", x.count(5), Integer.bitCount(mask));
            }
        }
        SunDesk x = new SunDesk();
        DUE.is("h between zeroes", x.feed(0x00006800, 0, 0x3b, 0, 0x68000000), 3);
        DUE.is("h;h", x.text(2), 0);
        DUE.is("the second h", x.step(0, 1, 0), 2);
        DUE.is("no third", x.step(0, 2, 0), -1);
        DUE.is("no bytes", x.feed(0, 0, 0, 0, 0), 0);
    }

    private static void anyByte() {
        for (int b = 1; b < 256; b++) {
            for (int place = 0; place < 4; place++) {
                SunDesk x = new SunDesk();
                DUE.is("byte " + b, x.feed(0, 0, b << 24 - 8 * place, 0, 0), 1);
            }
        }
        SunDesk x = new SunDesk();
        DUE.is("-1 is four bytes of 255", x.feed(-1, -1, -1, -1, -1), 20);
        DUE.is("128 at the highest place", x.feed(Integer.MIN_VALUE, 0, 0, 0, 0), 21);
        DUE.is("four more", x.feed(Integer.MAX_VALUE, 0, 0, 0, 0), 25);
        for (int sort = 0; sort < 3; sort++) {
            DUE.is("a byte above 127 is a FAULT", x.fault(sort), 0);
        }
    }

    private static void upTo240() {
        DUE.says("Promise 2", "NONE: more than 240.");
        int twenty = 0x20202020;
        for (int has = 200; has <= 240; has++) {
            for (int more = 0; more <= 20; more++) {
                SunDesk x = new SunDesk();
                Due.feed(x, " ".repeat(has));
                int[] w = new int[5];
                for (int i = 0; i < more; i++) {
                    w[i % 5] = w[i % 5] << 8 | 0x68;
                }
                DUE.is(has + " and " + more, x.feed(w[0], w[1], w[2], w[3], w[4]), has + more > 240 ? -1 : has + more);
                DUE.is(has + " and " + more, x.count(5), has + more > 240 ? has : has + more);
                // What was refused left no byte behind: else the first h would stand there.
                DUE.is("the first h", x.fault(2), has + more > 240 ? has : more == 0 ? has : more == 1 ? -1 : has + 1);
            }
        }
        SunDesk x = new SunDesk();
        for (int i = 1; i <= 12; i++) {
            DUE.is("feed " + i, x.feed(twenty, twenty, twenty, twenty, twenty), 20 * i);
        }
        DUE.is("full", x.feed(twenty, twenty, twenty, twenty, twenty), -1);
        DUE.is("nothing goes in always", x.feed(0, 0, 0, 0, 0), 240);
    }

    private static void oneAtATime() {
        SunDesk x = new SunDesk();
        for (int i = 1; i <= 240; i++) {
            DUE.is("byte " + i, x.feed(0, 0, 0, 0, i == 240 ? 'h' : ' '), i);
        }
        DUE.is("one more", x.feed('h', 0, 0, 0, 0), -1);
        DUE.is("the last byte counts", x.fault(2), -1);
        DUE.is("it is told", x.text(2), 0);
        DUE.is("there is room again", x.feed('h', 0, 0, 0, 0), 1);
    }

    private static void firstBytesAlone() {
        DUE.says("Promise 3", "The TAPE has its first n bytes alone. False: n.");
        for (int n = -1; n <= 10; n++) {
            SunDesk x = new SunDesk();
            Due.feed(x, "h;h;h;w0x");
            DUE.is("end(" + n + ")", x.end(n), n >= 0 && n <= 9);
            DUE.is("bytes behind end(" + n + ")", x.count(5), n >= 0 && n <= 9 ? n : 9);
            int[] faults = {8, 0, -1, 2, -1, 4, -1, 6, 7, -1, 8, 8};
            DUE.is("FAULT behind end(" + n + ")", x.fault(2), faults[n + 1]);
        }
        SunDesk x = new SunDesk();
        DUE.is("end(0) of nothing", x.end(0), true);
        DUE.is("end(1) of nothing", x.end(1), false);
        Due.feed(x, "h;w0");
        x.end(2);
        DUE.is("what was behind comes no more", x.end(3), false);
        Due.feed(x, "h");
        DUE.is("more comes behind the first ones", x.text(2), 0);
        DUE.is("h;h", x.step(0, 1, 0), 2);
        Due.feed(x, " ".repeat(240));
        DUE.is("end(240)", x.end(240), true);
        DUE.is("end(241)", x.end(241), false);
        DUE.is("end(239)", x.end(239), true);
        DUE.is("end(240) then", x.end(240), false);
    }

    /** What stood behind the first n bytes is read no more, whatever it was. */
    private static void nothingBehindTheEnd() {
        String[][] texts = {{"p;d;r", "pn12;d;r", "sa1l2;p;d;r"}, {"y:1", "y:h=12?3", "y:[1]+23"}, {"h", "f12;w3", "w1;h"}};
        String[] behind = {"     ", "12345", "0", ";", "; ", " ;h", "fff", "]", "?"};
        for (int sort = 0; sort < 3; sort++) {
            for (String text : texts[sort]) {
                for (int n = 0; n <= text.length(); n++) {
                    for (String more : behind) {
                        SunDesk x = new SunDesk();
                        Due.feed(x, text.substring(0, n) + more);
                        DUE.is("end", x.end(n), true);
                        SunDesk alone = new SunDesk();
                        Due.feed(alone, text.substring(0, n));
                        DUE.is("FAULT of " + n + " bytes of " + text + " ahead of \"" + more + "\"", x.fault(sort), alone.fault(sort));
                        DUE.is("text of " + n + " bytes of " + text + " ahead of \"" + more + "\"", x.text(sort), alone.text(sort));
                    }
                }
            }
        }
    }

    private static void sortsOfFault() {
        DUE.says("Promise 4", "The FAULT of the TAPE as a HILL (0), a RULE (1), ORDERS (2). NONE: none. -2: no such sort.");
        String[] texts = {"p;d;r", "y:1", "h"};
        for (int right = 0; right < 3; right++) {
            SunDesk x = new SunDesk();
            Due.feed(x, texts[right]);
            for (int sort = 0; sort < 3; sort++) {
                DUE.is("sort " + sort + " of " + texts[right], x.fault(sort), sort == right ? -1 : 0);
            }
            DUE.is("sort 3", x.fault(3), -2);
            DUE.is("sort -1", x.fault(-1), -2);
            DUE.is("it is asked only", x.count(5), texts[right].length());
            DUE.is("no HILL, no RULE, no ORDERS", x.count(0) + x.count(3) + x.count(4), 0);
        }
        for (int sort = 0; sort < 3; sort++) {
            DUE.is("an empty TAPE", new SunDesk().fault(sort), 0);
        }
    }

    private static void emptyThen() {
        DUE.says("Promise 5", "The TAPE (empty then; if refused it stays) is the HILL");
        DUE.says("Promise 5", "how many PARISHES; a RULE, ORDERS: the number.");
        SunDesk x = new SunDesk();
        String[] right = {"p;p;p;d;r", "y:1", "h"};
        for (int sort = 0; sort < 3; sort++) {
            DUE.is("text(" + sort + ")", Due.text(x, sort, right[sort]), sort == 0 ? 3 : 0);
            DUE.is("empty then", x.count(5), 0);
            DUE.is("an empty one is refused", x.text(sort), -1);
            DUE.is("with a FAULT", Due.text(x, sort, right[sort] + "x"), -1);
            DUE.is("it stays", x.count(5), right[sort].length() + 1);
            DUE.is("as it was", x.fault(sort), right[sort].length());
            DUE.is("no such sort", x.text(3), -1);
            DUE.is("it stays", x.count(5), right[sort].length() + 1);
        }
        for (int n = 1; n <= 6; n++) {
            DUE.is(n + " PARISHES", Due.text(x, 0, "p;".repeat(n) + "d;r"), n);
        }
    }

    private static void whatIsGone() {
        DUE.says("Promise 5", "(HOUR 0; all that was of another one is gone but RULES, which holds, ORDERS, ECLIPSE)");
        for (String hill : new String[] {Stands.HILL, Stands.WIDE, "p;d;r"}) {
            DUE.same("a HILL anew is as the first one", Asked.difference(Asked.after(x -> {
                Stands.textsAlone(x);
                Due.text(x, 0, hill);
            }), Asked.after(x -> {
                Stands.played(x);
                // What was asked of the one ahead is not what is answered of this one.
                for (int p = 0; p < 4; p++) {
                    x.soonest(p, 1);
                    x.ahead(p, 9, 0);
                }
                x.rests(-1);
                x.could(-1);
                Due.text(x, 0, hill);
            })), "");
            SunDesk x = Due.hill("pf1;pf2;pf3;p;p;do9c12t5;r;rn0;rn1m0;rn2m1");
            for (int hour = 0; hour < 24; hour++) {
                x.earliest();
                x.go(1);
            }
            x.rests(-1);
            Due.text(x, 0, hill);
            SunDesk first = Due.hill(hill);
            DUE.is("rests", x.rests(-1), first.rests(-1));
            int parishes = x.count(0);
            for (int hour = 0; hour < 24; hour++) {
                for (int p = 0; p < parishes; p++) {
                    DUE.is("a HILL anew: row of " + p, x.soonest(p, 1), first.soonest(p, 1));
                    DUE.is("a HILL anew: HOURS of " + p, x.soonest(p, 0), first.soonest(p, 0));
                }
                x.go(1);
                first.go(1);
            }
        }
        SunDesk x = new SunDesk();
        Stands.full(x);
        DUE.is("HOUR", x.count(7), 9999);
        DUE.is("a HILL anew", Due.text(x, 0, "p;d;r"), 1);
        int[] gone = {7, 9, 10, 11};
        for (int what : gone) {
            DUE.is("count(" + what + ")", x.count(what), 0);
        }
        DUE.is("it goes on from HOUR 0", x.go(240), 240);
        DUE.is("its IMAGE", x.back(), -1);
    }

    private static void whatIsNotGone() {
        SunDesk x = new SunDesk();
        Stands.full(x);
        for (int i = 0; i < 3; i++) {
            Due.text(x, 0, "p;d;r");
            DUE.is("RULES", x.count(3), 4);
            DUE.is("which holds", x.count(6), 3);
            DUE.is("ORDERS", x.count(4), 4);
            DUE.is("ECLIPSE", x.count(8), 99);
            DUE.is("a STEP", x.step(2, 0, 2), 2);
        }
        x.file(0, 0);
        x.go(1);
        DUE.is("by the RULE that holds, h>3", x.parish(0, 8), 1);
    }

    private static void ruleThatHolds() {
        DUE.says("Promise 10", "The RULE that holds (NONE: none). False: no such one.");
        SunDesk x = new SunDesk();
        for (int many = 0; many <= 4; many++) {
            for (int r = -2; r <= 5; r++) {
                int before = x.count(6);
                boolean there = r >= -1 && r < many;
                DUE.is("rule(" + r + ") of " + many, x.rule(r), there);
                DUE.is("which holds", x.count(6), there ? r : before);
            }
            Due.text(x, 1, "y:1");
        }
        DUE.is("none again", x.rule(-1), true);
        DUE.is("which holds", x.count(6), -1);
        DUE.is("none once more", x.rule(-1), true);
    }

    private static void eclipse() {
        DUE.says("Promise 11", "ECLIPSE (0 .. 99). False: out of bounds, it is so.");
        DUE.says("4", "ECLIPSE (0 .. 99; 0 at first)");
        SunDesk x = new SunDesk();
        DUE.is("0 at first", x.count(8), 0);
        DUE.is("it is so", x.eclipse(0), false);
        for (int v = 1; v <= 99; v++) {
            DUE.is("eclipse(" + v + ")", x.eclipse(v), true);
            DUE.is("it is so", x.eclipse(v), false);
            DUE.is("ECLIPSE", x.count(8), v);
        }
        for (int v : new int[] {100, -1, 101, 999, Integer.MAX_VALUE, Integer.MIN_VALUE}) {
            DUE.is("eclipse(" + v + ")", x.eclipse(v), false);
            DUE.is("ECLIPSE", x.count(8), 99);
        }
        DUE.is("eclipse(0)", x.eclipse(0), true);
        DUE.is("ECLIPSE", x.count(8), 0);
    }
}
