import java.util.NoSuchElementException;
import java.util.Random;

/** Runs of calls by chance on SunDesk and on the model: both answer alike, and stand alike behind every call. */
public final class ModelTest {
    private static final int RUNS = 400;
    private static final int CALLS = 300;

    private final Due due = new Due("model");
    private Random chance;
    private Texts texts;
    private SunDesk x;
    private Model m;
    private String call;

    public static void main(String[] args) {
        int runs = args.length > 0 ? Integer.parseInt(args[0]) : RUNS;
        int from = args.length > 1 ? Integer.parseInt(args[1]) : 0;
        ModelTest test = new ModelTest();
        for (int run = from; run < from + runs && test.due.wrong() == 0; run++) {
            test.play(run);
        }
        test.due.close();
    }

    private int in(int low, int high) {
        return low + chance.nextInt(high - low + 1);
    }

    private void play(int run) {
        chance = new Random(run);
        texts = new Texts(run);
        x = new SunDesk();
        m = new Model();
        int began = due.wrong();
        int calls = 0;
        if (chance.nextInt(10) > 0) {
            tell(0, texts.hill());
        }
        for (; calls < CALLS && due.wrong() == began; calls++) {
            any(run, calls);
        }
    }

    private void check(long got, long want) {
        due.is(call, got, want);
    }

    private void tell(int sort, String text) {
        x.end(0);
        m.end(0);
        for (int i = 0; i < text.length(); i += 20) {
            int[] w = new int[5];
            for (int k = 0; k < 20; k++) {
                w[k / 4] = w[k / 4] << 8 | (i + k < text.length() ? text.charAt(i + k) & 255 : 0);
            }
            check(x.feed(w[0], w[1], w[2], w[3], w[4]), m.feed(w));
        }
        call = "fault(" + sort + ") of " + text;
        check(x.fault(sort), m.fault(sort));
        call = "text(" + sort + ") of " + text;
        check(x.text(sort), m.text(sort));
    }

    private void any(int run, int n) {
        int p = in(-1, 6);
        int r = in(-1, 8);
        int what = in(-1, 9);
        int small = in(-1, 3);
        call = "run " + run + " call " + n;
        switch (in(0, 45)) {
            case 0: if (in(0, 9) == 0) { tell(0, texts.hill()); } break;
            case 1: tell(1, texts.rule()); break;
            case 2: tell(2, texts.orders()); break;
            case 3: { int sort = in(0, 2); tell(sort, texts.nearly(texts.any(sort))); } break;
            case 4: rule(in(-2, 4)); break;
            case 5: { int v = in(0, 3) == 0 ? in(-2, 102) : in(0, 40); at("eclipse", v); check(x.eclipse(v) ? 1 : 0, m.eclipse(v) ? 1 : 0); } break;
            case 6: case 7: case 8: case 9: case 10: case 11: case 12: at("file", p, r); check(x.file(p, r), m.file(p, r)); break;
            case 13: at("withdraw", p); check(x.withdraw(p), m.withdraw(p)); break;
            case 14: case 15: case 16: { int h = in(0, 6) == 0 ? in(-1, 242) : in(1, 5); at("go", h); check(x.go(h), m.go(h)); } break;
            case 17: { int h = in(0, 4) == 0 ? in(-1, 49) : in(1, 5); at("toil", h); check(x.toil(h), m.toil(h)); } break;
            case 18: { int h = in(0, 4) == 0 ? in(-1, 242) : in(1, 9); long s = chance.nextLong(); at("years", h); check(x.years(h, s), m.years(h, s)); } break;
            case 19: at("undo"); for (int k = in(1, 45); k > 0; k -= in(1, 9)) { check(x.undo(), m.undo()); } break;
            case 20: { int i = in(-1, 61); at("log", i, small); check(x.log(i, small), m.log(i, small)); } break;
            case 21: { int i = in(-1, 17); at("step", small, i, what); check(x.step(in(0, 0) + small, i, what), m.step(small, i, what)); } break;
            case 22: case 23: { int o = in(-1, 4); at("run", o); check(x.run(o), m.run(o)); } break;
            case 24: { int o = in(-1, 4); at("perform", o); check(x.perform(o), m.perform(o)); } break;
            case 25: case 26: { int h = in(-1, 241); int k = in(-1, 2); at("ahead", p, h, k); check(x.ahead(p, h, k), m.ahead(p, h, k)); } break;
            case 27: at("needed", r); check(x.needed(r), m.needed(r)); at("ring"); check(x.ring(), m.ring()); break;
            case 28: case 29: at("soonest", p, small); check(x.soonest(p, small), m.soonest(p, small)); break;
            case 30: at("waived", p); check(x.waived(p), m.waived(p)); break;
            case 31: at("earliest"); check(x.earliest(), m.earliest()); break;
            case 32: case 33: { int row = row(); at("share", row, p); check(x.share(row, p), m.share(row, p)); } break;
            case 34: if (x.count(0) < 5 || in(0, 4) == 0) { int i = in(-2, 8); at("rests", i); check(x.rests(i), m.rests(i)); } break;
            case 35: { int[] b = {in(0, 100), in(0, 100), in(0, 100)}; at("bribes", b[0], b[1], b[2], small); check(x.bribes(b[0], b[1], b[2], small), m.bribes(b[0], b[1], b[2], small)); } break;
            case 36: { int h = in(0, 2) == 0 ? in(-1, 25) : in(0, 8); at("see", p, h); check(x.see(p, h), m.see(p, h)); } break;
            case 37: { int i = in(-2, 9); at("could", i); check(x.could(i), m.could(i)); } break;
            case 38: at("sure"); check(x.sure(), m.sure()); break;
            case 39: at("wrong"); check(x.wrong(), m.wrong()); break;
            case 40: { int d = in(0, 10); at("works", d, small); check(x.works(d, small), m.works(d, small)); } break;
            case 41: if (in(0, 2) == 0) { at("image"); check(x.image(), m.image()); } break;
            case 42: if (in(0, 4) == 0) { at("back"); check(x.back(), m.back()); } break;
            case 43: { int k = in(-2, 241); at("end", k); check(x.end(k) ? 1 : 0, m.end(k) ? 1 : 0); } break;
            case 44: if (in(0, 3) == 0) { int h = in(200, 240); at("go", h); for (int k = in(1, 45); k > 0; k--) { check(x.go(h), m.go(h)); } } break;
            default: at("sun", small); check(x.sun(small), m.sun(small));
        }
        standAlike();
    }

    private void at(String name, int... args) {
        StringBuilder told = new StringBuilder(call).append(": ").append(name).append("(");
        for (int i = 0; i < args.length; i++) {
            told.append(i == 0 ? "" : ", ").append(args[i]);
        }
        call = told.append(")").toString();
    }

    private void rule(int r) {
        at("rule", r);
        check(x.rule(r) ? 1 : 0, m.rule(r) ? 1 : 0);
    }

    /** A row of FORMS more often than not. */
    private int row() {
        int n = x.count(0);
        if (n == 0 || in(0, 3) == 0) {
            return in(-1, 120000);
        }
        int row = 0;
        for (int k = 0; k < n; k++) {
            row = row * 10 + x.parish(in(0, n - 1), 0);
        }
        return row;
    }

    private void standAlike() {
        for (int what = -1; what <= 12; what++) {
            due.is(call + " then count(" + what + ")", x.count(what), m.count(what));
        }
        for (int p = 0; p <= x.count(0); p++) {
            for (int what = 0; what <= 9; what++) {
                due.is(call + " then parish(" + p + ", " + what + ")", parish(p, what), modelParish(p, what));
            }
        }
        for (int d = 0; d <= x.count(1); d++) {
            for (int what = -1; what <= 7; what++) {
                due.is(call + " then desk(" + d + ", " + what + ")", x.desk(d, what), m.desk(d, what));
            }
        }
        for (int r = 0; r <= x.count(2); r++) {
            for (int what = -1; what <= 3; what++) {
                due.is(call + " then paper(" + r + ", " + what + ")", x.paper(r, what), m.paper(r, what));
            }
        }
        for (int i = 0; i < x.count(10); i++) {
            due.is(call + " then log(" + i + ", 0)", x.log(i, 0), m.log(i, 0));
            due.is(call + " then log(" + i + ", 1)", x.log(i, 1), m.log(i, 1));
        }
    }

    private long parish(int p, int what) {
        try {
            return x.parish(p, what);
        } catch (NoSuchElementException e) {
            return Long.MIN_VALUE;
        }
    }

    private long modelParish(int p, int what) {
        try {
            return m.parish(p, what);
        } catch (NoSuchElementException e) {
            return Long.MIN_VALUE;
        }
    }
}
