import java.util.NoSuchElementException;

/** What the tests share: answers that are due, and texts that are fed. */
final class Due {
    private final String about;
    private int checked;
    private int wrong;

    Due(String about) {
        this.about = about;
    }

    void is(String call, long got, long want) {
        checked++;
        if (got != want) {
            tell(call, "" + got, "" + want);
        }
    }

    void is(String call, boolean got, boolean want) {
        checked++;
        if (got != want) {
            tell(call, "" + got, "" + want);
        }
    }

    void same(String call, String got, String want) {
        checked++;
        if (!got.equals(want)) {
            tell(call, got, want);
        }
    }

    /** That parish(parish, what) throws the exception of promise 7. */
    void isMissing(SunDesk x, int parish, int what) {
        checked++;
        try {
            tell("parish(" + parish + ", " + what + ")", "" + x.parish(parish, what), "NoSuchElementException");
        } catch (NoSuchElementException e) {
            // this is what is due
        }
    }

    /** That the document says this in that section: what stands below is the test of these words. */
    void says(String section, String words) {
        is("the document says in " + section + " \"" + words + "\"", Document.says(section, words), true);
    }

    private void tell(String call, String got, String want) {
        wrong++;
        if (wrong <= 40) {
            System.out.println(about + ": " + call + " answered " + got + ", due is " + want);
        }
    }

    int wrong() {
        return wrong;
    }

    /** Ends the test: with code 1 if an answer was not the one that is due. */
    void close() {
        System.out.println(about + ": " + checked + " answers, " + wrong + " not as due");
        if (wrong != 0) {
            System.exit(1);
        }
    }

    /** Feeds a text behind what the TAPE has: what the last feed answered. */
    static int feed(SunDesk x, String text) {
        int answer = x.count(5);
        for (int i = 0; i < text.length(); i += 20) {
            answer = x.feed(word(text, i), word(text, i + 4), word(text, i + 8), word(text, i + 12), word(text, i + 16));
        }
        return answer;
    }

    private static int word(String text, int i) {
        int word = 0;
        for (int k = i; k < i + 4; k++) {
            word = word << 8 | (k < text.length() ? text.charAt(k) & 255 : 0);
        }
        return word;
    }

    /** The FAULT of a text, which is not kept. */
    static int fault(SunDesk x, int sort, String text) {
        x.end(0);
        feed(x, text);
        int fault = x.fault(sort);
        x.end(0);
        return fault;
    }

    /** Tells a text anew: what text(sort) answered. */
    static int text(SunDesk x, int sort, String text) {
        x.end(0);
        feed(x, text);
        return x.text(sort);
    }

    /** All that can be seen of an object without asking what is to come. */
    static String stand(SunDesk x) {
        StringBuilder seen = new StringBuilder();
        for (int what = 0; what <= 11; what++) {
            seen.append(x.count(what)).append(' ');
        }
        for (int p = 0; p < x.count(0); p++) {
            for (int what = 0; what <= 8; what++) {
                seen.append(x.parish(p, what)).append(' ');
            }
        }
        for (int d = 0; d < x.count(1); d++) {
            seen.append(x.desk(d, 4)).append(' ').append(x.desk(d, 5)).append(' ');
        }
        for (int i = 0; i < x.count(10); i++) {
            seen.append(x.log(i, 0)).append(' ').append(x.log(i, 1)).append(' ');
        }
        return seen.append(x.could(-1)).append(' ').append(x.wrong()).toString();
    }

    /** Lets so many HOURS pass, more than one call may. */
    static void pass(SunDesk x, int hours) {
        for (int left = hours; left > 0; left -= 240) {
            x.go(Math.min(left, 240));
        }
    }

    /** A new object with this HILL and these ORDERS. */
    static SunDesk ordered(String hill, String... orders) {
        SunDesk x = hill(hill);
        for (String o : orders) {
            text(x, 2, o);
        }
        return x;
    }

    /** A new object with this HILL. */
    static SunDesk hill(String text) {
        SunDesk x = new SunDesk();
        int told = text(x, 0, text);
        if (told < 1) {
            throw new IllegalStateException("not a hill: " + text);
        }
        return x;
    }
}
