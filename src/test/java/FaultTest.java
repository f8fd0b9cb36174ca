/** Many texts, right and nearly right: the FAULT is where the grammar, read by descent, stops. */
public final class FaultTest {
    private static final int TEXTS = 60000;

    public static void main(String[] args) {
        Due due = new Due("fault");
        Texts texts = new Texts(7);
        SunDesk x = new SunDesk();
        int right = 0;
        for (int i = 0; i < TEXTS; i++) {
            int sort = i % 3;
            String text = texts.any(sort);
            if (i % 4 != 0) {
                text = texts.nearly(text);
            }
            int want = Grammar.fault(sort, text);
            right += want == -1 ? 1 : 0;
            due.is("fault(" + sort + ") of \"" + text + "\"", Due.fault(x, sort, text), want);
        }
        due.is("enough right ones among them", right > TEXTS / 4 && right < TEXTS * 3 / 4, true);
        due.close();
    }
}
