import java.util.NoSuchElementException;

/** What the tests share: answers that are due, and texts that are fed. */
final class Due {
    private final String about;
    private int checked;
    private int wrong;

    Due(String about) {
        this.about = about;
    }

    void is(String call, long got, long want) {
        checked++;
        if (got != want) {
            tell(call, "" + got, "" + want);
        }
    }

    void is(String call, boolean got, boolean want) {
        checked++;
        if (got != want) {
            tell(call, "" + got, "" + want);
        }
    }

    void same(String call, String got, String want) {
        checked++;
        if (!got.equals(want)) {
            tell(call, got, want);
        }
    }

    /** That parish(parish, what) throws the exception of promise 7. */
    void isMissing(SunDesk x, int parish, int what) {
        checked++;
        try {
            tell("parish(" + parish + ", " + what + ")", "" + x.parish(parish, what), "NoSuchElementException");
        } catch (NoSuchElementException e) {
            // this is what is due
        }
    }

    private void tell(String call, String got, String want) {
        wrong++;
        if (wrong <= 40) {
            System.out.println(about + ": " + call + " answered " + got + ", due is " + want);
        }
    }

    int wrong() {
        return wrong;
    }

    /** Ends the test: with code 1 if an answer was not the one that is due. */
    void close() {
        System.out.println(about + ": " + checked + " answers, " + wrong + " not as due");
        if (wrong != 0) {
            System.exit(1);
        }
    }

    /** Feeds a text behind what the TAPE has: what the last feed answered. */
    static int feed(SunDesk x, String text) {
        int answer = x.count(5);
        for (int i = 0; i < text.length(); i += 20) {
            answer = x.feed(word(text, i), word(text, i + 4), word(text, i + 8), word(text, i + 12), word(text, i + 16));
        }
        return answer;
    }

    private static int word(String text, int i) {
        int word = 0;
        for (int k = i; k < i + 4; k++) {
            word = word << 8 | (k < text.length() ? text.charAt(k) & 255 : 0);
        }
        return word;
    }

    /** The FAULT of a text, which is not kept. */
    static int fault(SunDesk x, int sort, String text) {
        x.end(0);
        feed(x, text);
        int fault = x.fault(sort);
        x.end(0);
        return fault;
    }

    /** Tells a text anew: what text(sort) answered. */
    static int text(SunDesk x, int sort, String text) {
        x.end(0);
        feed(x, text);
        return x.text(sort);
    }

    /** A new object with this HILL. */
    static SunDesk hill(String text) {
        SunDesk x = new SunDesk();
        int told = text(x, 0, text);
        if (told < 1) {
            throw new IllegalStateException("not a hill: " + text);
        }
        return x;
    }
}
