import java.lang.management.ManagementFactory;

/** What a run makes: an object is small, and its dearest calls make nothing that is counted by the call. */
public final class RoomTest {
    private static final int CALLS = 512;

    public static void main(String[] args) {
        Due due = new Due("room");
        com.sun.management.ThreadMXBean bean = (com.sun.management.ThreadMXBean) ManagementFactory.getThreadMXBean();
        long self = Thread.currentThread().getId();
        work(new SunDesk());
        long before = bean.getThreadAllocatedBytes(self);
        SunDesk x = new SunDesk();
        long made = bean.getThreadAllocatedBytes(self) - before;
        due.is("an object has less than 64 KiB, not " + made, made < 64 * 1024, true);
        before = bean.getThreadAllocatedBytes(self);
        work(x);
        long worked = bean.getThreadAllocatedBytes(self) - before;
        due.is("all its calls make less than 32 KiB, not " + worked, worked < 32 * 1024, true);
        due.close();
    }

    private static final int[] HILL = words("sa5;pf7;pf7z9;pf6;pf5;pf4;d;do8c10t9;dt3;dc1;r;rd1;rd2n0;rd3n1;r;rn2m3;rn4;rd1n5m6");
    private static final int[] RULE = words("y:!!(!(([[h]]=1|d>3&w*k/p<n-z)))|k<1?1;y:1+2-3");
    private static final int[] ORDERS = words("f00;f11;h;h;w0;h;f20;h;h;h;h;h");

    private static int[] words(String text) {
        int[] words = new int[(text.length() + 19) / 20 * 5];
        for (int i = 0; i < words.length * 4; i++) {
            words[i / 4] = words[i / 4] << 8 | (i < text.length() ? text.charAt(i) : 0);
        }
        return words;
    }

    private static void feed(SunDesk x, int[] words) {
        for (int i = 0; i + 4 < words.length; i += 5) {
            x.feed(words[i], words[i + 1], words[i + 2], words[i + 3], words[i + 4]);
        }
    }

    private static void work(SunDesk x) {
        for (int i = 0; i < CALLS / 32; i++) {
            feed(x, HILL);
            x.text(0);
            feed(x, RULE);
            x.text(1);
            x.end(0);
            feed(x, ORDERS);
            x.text(2);
            x.end(0);
            x.rule(i % 2);
            x.toil(48);
            x.years(240, i);
            x.go(240);
            x.run(0);
            x.perform(0);
            x.ahead(0, 240, 0);
            x.soonest(0, 1);
            x.waived(0);
            x.earliest();
            x.rests(-1);
            x.see(0, 3);
            x.could(-1);
            x.sure();
            x.wrong();
            x.works(9, 0);
            x.image();
            x.undo();
            x.back();
        }
    }
}
