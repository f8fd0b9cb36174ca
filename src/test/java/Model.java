import java.util.ArrayList;
import java.util.Collections;
import java.util.List;
import java.util.NoSuchElementException;

/** The document once more, written slowly and plainly with the library, so that SunDesk can be held against it. */
final class Model {
    private static final int NONE = -1;
    private static final int HIDDEN = -1000000;

    /** How it stands in one HOUR. */
    private static final class Stand {
        int hour;
        List<Integer> held = new ArrayList<>();
        List<Integer> waits = new ArrayList<>();
        List<Integer> done = new ArrayList<>();
        List<Integer> light = new ArrayList<>();
        List<Integer> paid = new ArrayList<>();
        List<Integer> refused = new ArrayList<>();
        List<List<Integer>> queues = new ArrayList<>();
        List<int[]> log = new ArrayList<>();

        Stand copy() {
            Stand s = new Stand();
            s.hour = hour;
            s.held = new ArrayList<>(held);
            s.waits = new ArrayList<>(waits);
            s.done = new ArrayList<>(done);
            s.light = new ArrayList<>(light);
            s.paid = new ArrayList<>(paid);
            s.refused = new ArrayList<>(refused);
            for (List<Integer> q : queues) {
                s.queues.add(new ArrayList<>(q));
            }
            s.log = new ArrayList<>(log);
            return s;
        }
    }

    private final StringBuilder tape = new StringBuilder();
    private Grammar.HillText hill;
    private final List<Grammar.RuleText> rules = new ArrayList<>();
    private final List<List<int[]>> orders = new ArrayList<>();
    private int holding = NONE;
    private int eclipse;
    private Stand now = new Stand();
    private Stand image;
    private List<Stand> acts = new ArrayList<>();
    private List<int[]> seen = new ArrayList<>();
    private long x;

    int feed(int... words) {
        StringBuilder more = new StringBuilder();
        for (int w : words) {
            for (int shift : new int[] {24, 16, 8, 0}) {
                char c = (char) (w >> shift & 255);
                if (c != 0) {
                    more.append(c);
                }
            }
        }
        if (tape.length() + more.length() > 240) {
            return NONE;
        }
        return tape.append(more).length();
    }

    boolean end(int n) {
        if (n < 0 || n > tape.length()) {
            return false;
        }
        tape.setLength(n);
        return true;
    }

    int fault(int sort) {
        return sort < 0 || sort > 2 ? -2 : Grammar.fault(sort, tape.toString());
    }

    int text(int sort) {
        if (sort < 0 || sort > 2 || fault(sort) != NONE) {
            return NONE;
        }
        String text = tape.toString();
        if (sort == 0) {
            hill = Grammar.hill(text);
            now = new Stand();
            for (int p = 0; p < hill.parishes.size(); p++) {
                now.held.add(0);
                now.waits.add(NONE);
                now.done.add(0);
                now.light.add(0);
                now.paid.add(0);
                now.refused.add(0);
            }
            for (int d = 0; d < hill.desks.size(); d++) {
                now.queues.add(new ArrayList<>());
            }
            image = null;
            acts = new ArrayList<>();
            seen = new ArrayList<>();
            tape.setLength(0);
            return hill.parishes.size();
        }
        if ((sort == 1 ? rules.size() : orders.size()) == 4) {
            return NONE;
        }
        tape.setLength(0);
        if (sort == 1) {
            rules.add(Grammar.rule(text));
            return rules.size() - 1;
        }
        orders.add(Grammar.orders(text));
        return orders.size() - 1;
    }

    private boolean isParish(int p) {
        return hill != null && p >= 0 && p < hill.parishes.size();
    }

    private boolean isDesk(int d) {
        return hill != null && d >= 0 && d < hill.desks.size();
    }

    private boolean isPaper(int r) {
        return hill != null && r >= 0 && r < hill.papers.size();
    }

    private int form(int p) {
        return hill.parishes.get(p)[0];
    }

    private int[] deskOf(int paper) {
        return hill.desks.get(hill.papers.get(paper)[0]);
    }

    private List<Integer> wants(int paper) {
        List<Integer> w = new ArrayList<>();
        for (int k = 1; k <= 2; k++) {
            if (hill.papers.get(paper)[k] != 8) {
                w.add(hill.papers.get(paper)[k]);
            }
        }
        return w;
    }

    int sun(int what) {
        return hill == null || what < 0 || what > 1 ? NONE : hill.sun[what];
    }

    int parish(int p, int what) {
        if (!isParish(p) || what < 0 || what > 8) {
            throw new NoSuchElementException();
        }
        switch (what) {
            case 3: return now.held.get(p);
            case 4: return now.waits.get(p);
            case 5: return now.done.get(p);
            case 6: return now.light.get(p);
            case 7: return now.paid.get(p);
            case 8: return now.refused.get(p);
            default: return hill.parishes.get(p)[what];
        }
    }

    int desk(int d, int what) {
        if (!isDesk(d) || what < 0 || what > 6) {
            return NONE;
        }
        List<Integer> q = now.queues.get(d);
        switch (what) {
            case 4: return q.size();
            case 5: return q.isEmpty() ? NONE : q.get(0);
            case 6: return isOpen(d, now.hour) ? 1 : 0;
            default: return hill.desks.get(d)[what];
        }
    }

    private boolean isOpen(int d, int hour) {
        int time = hour % 24;
        return time >= hill.desks.get(d)[0] && time < hill.desks.get(d)[1];
    }

    int paper(int r, int what) {
        if (!isPaper(r) || what < 0 || what > 2) {
            return NONE;
        }
        int v = hill.papers.get(r)[what];
        return what > 0 && v == 8 ? NONE : v;
    }

    boolean rule(int r) {
        if (r < -1 || r >= rules.size()) {
            return false;
        }
        holding = r;
        return true;
    }

    boolean eclipse(int v) {
        if (v < 0 || v > 99 || v == eclipse) {
            return false;
        }
        eclipse = v;
        return true;
    }

    private static boolean has(int bits, int i) {
        return (bits & 1 << i) != 0;
    }

    private boolean canFile(Stand s, int p, int r) {
        if (!isParish(p) || !isPaper(r) || s.waits.get(p) != NONE || has(s.held.get(p), r)) {
            return false;
        }
        for (int w : wants(r)) {
            if (!has(s.held.get(p), w)) {
                return false;
            }
        }
        return true;
    }

    private boolean canWithdraw(Stand s, int p) {
        return isParish(p) && s.waits.get(p) != NONE;
    }

    private int doFile(Stand s, int p, int r) {
        s.waits.set(p, r);
        List<Integer> q = s.queues.get(hill.papers.get(r)[0]);
        q.add(p);
        return q.size();
    }

    private void leave(Stand s, int p) {
        s.queues.get(hill.papers.get(s.waits.get(p))[0]).remove((Integer) p);
        s.waits.set(p, NONE);
        s.done.set(p, 0);
    }

    private void keep() {
        acts.add(now.copy());
        if (acts.size() > 40) {
            acts.remove(0);
        }
    }

    int file(int p, int r) {
        if (!canFile(now, p, r)) {
            return NONE;
        }
        keep();
        return doFile(now, p, r);
    }

    int withdraw(int p) {
        if (!canWithdraw(now, p)) {
            return NONE;
        }
        keep();
        int r = now.waits.get(p);
        leave(now, p);
        return r;
    }

    /** The light of each PARISH, if it shares by the PAPER that is told for it (null: by none). */
    private List<Integer> light(List<Integer> papers) {
        List<Integer> hours = new ArrayList<>(Collections.nCopies(papers.size(), 0));
        for (int r = 0; r < 8; r++) {
            List<Integer> group = new ArrayList<>();
            for (int p = 0; p < papers.size(); p++) {
                if (papers.get(p) != null && papers.get(p) == r) {
                    group.add(p);
                }
            }
            if (group.isEmpty()) {
                continue;
            }
            int left = hill.sun[1] - hill.sun[1] / group.size() * group.size();
            for (int p : group) {
                int own = hill.sun[1] / group.size();
                if (left > 0) {
                    own++;
                    left--;
                }
                hours.set(p, Math.min(own, hill.parishes.get(p)[1]));
            }
        }
        return hours;
    }

    private void hour(Stand s, boolean dark) {
        int time = s.hour % 24;
        int n = hill.parishes.size();
        if (time == hill.sun[0]) {
            List<Integer> papers = new ArrayList<>();
            int who = 0;
            for (int p = 0; p < n; p++) {
                boolean has = !dark && has(s.held.get(p), form(p));
                papers.add(has ? form(p) : null);
                if (has) {
                    who += 1 << p;
                    s.held.set(p, s.held.get(p) - (1 << form(p)));
                }
            }
            s.light = light(papers);
            int all = 0;
            for (int l : s.light) {
                all += l;
            }
            s.log.add(new int[] {who, all});
            if (s.log.size() > 60) {
                s.log.remove(0);
            }
        }
        for (int d = 0; d < hill.desks.size(); d++) {
            List<Integer> q = s.queues.get(d);
            if (!isOpen(d, s.hour) || q.isEmpty()) {
                continue;
            }
            int p = q.get(0);
            s.done.set(p, s.done.get(p) + 1);
            if (s.done.get(p) < hill.desks.get(d)[2]) {
                continue;
            }
            int r = s.waits.get(p);
            int[] letters = {time, s.hour / 24, q.size(), Integer.bitCount(s.held.get(p)), p, r, hill.parishes.get(p)[2]};
            boolean granted = holding == NONE || rules.get(holding).worth(letters) > 0;
            leave(s, p);
            s.paid.set(p, s.paid.get(p) + hill.desks.get(d)[3]);
            if (granted) {
                s.held.set(p, s.held.get(p) | 1 << r);
            } else {
                s.refused.set(p, s.refused.get(p) + 1);
            }
        }
        s.hour++;
    }

    private boolean canPass(int n, int most) {
        return hill != null && n >= 1 && n <= most && now.hour + n <= 9999;
    }

    int go(int n) {
        if (!canPass(n, 240)) {
            return NONE;
        }
        for (int i = 0; i < n; i++) {
            keep();
            hour(now, false);
        }
        return now.hour;
    }

    private void fileSoonest(int p) {
        int[] best = best(p, now.held.get(p));
        if (best != null) {
            doFile(now, p, best[3]);
        }
    }

    private boolean idle(int p) {
        return now.waits.get(p) == NONE && !has(now.held.get(p), form(p));
    }

    int toil(int n) {
        if (!canPass(n, 48)) {
            return NONE;
        }
        for (int i = 0; i < n; i++) {
            keep();
            for (int p = 0; p < hill.parishes.size(); p++) {
                if (idle(p)) {
                    fileSoonest(p);
                }
            }
            hour(now, false);
        }
        return now.hour;
    }

    private int draw(int k) {
        x = x * 6364136223846793005L + 1442695040888963407L;
        return (int) (Long.divideUnsigned(x, 1L << 33) % k);
    }

    int years(int n, long seed) {
        if (!canPass(n, 240)) {
            return NONE;
        }
        x = seed;
        for (int i = 0; i < n; i++) {
            keep();
            for (int p = 0; p < hill.parishes.size(); p++) {
                if (idle(p)) {
                    int drawn = draw(10);
                    if (drawn < hill.parishes.get(p)[2]) {
                        fileSoonest(p);
                    }
                }
            }
            boolean dark = false;
            if (now.hour % 24 == hill.sun[0]) {
                dark = draw(100) < eclipse;
            }
            hour(now, dark);
        }
        return now.hour;
    }

    int undo() {
        if (acts.isEmpty()) {
            return NONE;
        }
        now = acts.remove(acts.size() - 1);
        return acts.size();
    }

    int log(int i, int what) {
        return i < 0 || i >= now.log.size() || what < 0 || what > 1 ? NONE : now.log.get(now.log.size() - 1 - i)[what];
    }

    int step(int o, int i, int what) {
        if (o < 0 || o >= orders.size() || i < 0 || i >= orders.get(o).size() || what < 0 || what > 2) {
            return NONE;
        }
        return orders.get(o).get(i)[what];
    }

    private boolean tryStep(Stand s, int[] step, boolean real) {
        if (step[0] == 0 && !canFile(s, step[1], step[2]) || step[0] == 1 && !canWithdraw(s, step[1]) || step[0] == 2 && s.hour == 9999) {
            return false;
        }
        if (real) {
            keep();
        }
        if (step[0] == 0) {
            doFile(s, step[1], step[2]);
        } else if (step[0] == 1) {
            leave(s, step[1]);
        } else {
            hour(s, false);
        }
        return true;
    }

    int run(int o) {
        if (hill == null || o < 0 || o >= orders.size()) {
            return HIDDEN;
        }
        Stand s = now.copy();
        for (int i = 0; i < orders.get(o).size(); i++) {
            if (!tryStep(s, orders.get(o).get(i), false)) {
                return i;
            }
        }
        return NONE;
    }

    int perform(int o) {
        if (hill == null || o < 0 || o >= orders.size()) {
            return NONE;
        }
        int done = 0;
        while (done < orders.get(o).size() && tryStep(now, orders.get(o).get(done), true)) {
            done++;
        }
        return done;
    }

    int ahead(int p, int n, int what) {
        if (!isParish(p) || n < 0 || n > 240 || what < 0 || what > 1) {
            return NONE;
        }
        Stand s = now.copy();
        for (int i = 0; i < n; i++) {
            hour(s, false);
        }
        return what == 0 ? s.held.get(p) : s.light.get(p);
    }

    private void gather(int paper, int held, List<Integer> into) {
        if (!has(held, paper) && !into.contains(paper)) {
            into.add(paper);
            for (int w : wants(paper)) {
                gather(w, held, into);
            }
        }
    }

    private static int bits(List<Integer> papers) {
        int bits = 0;
        for (int r : papers) {
            bits |= 1 << r;
        }
        return bits;
    }

    int needed(int r) {
        if (!isPaper(r)) {
            return NONE;
        }
        List<Integer> all = new ArrayList<>();
        gather(r, 0, all);
        return bits(all);
    }

    int ring() {
        if (hill == null) {
            return NONE;
        }
        int ring = 0;
        for (int r = 0; r < hill.papers.size(); r++) {
            for (int w : wants(r)) {
                if (has(needed(w), r)) {
                    ring |= 1 << r;
                }
            }
        }
        return ring;
    }

    /** Hours, row, fees and the first PAPER of the best row; null without one. */
    private int[] best(int p, int held) {
        List<Integer> lacks = new ArrayList<>();
        gather(form(p), held, lacks);
        Collections.sort(lacks);
        int fees = 0;
        for (int r : lacks) {
            fees += deskOf(r)[3];
        }
        if (lacks.isEmpty()) {
            return new int[] {0, NONE, 0, NONE};
        }
        int[] best = {Integer.MAX_VALUE, NONE, fees, NONE};
        rows(lacks, held, now.hour, new ArrayList<>(), best);
        return best[0] == Integer.MAX_VALUE ? null : best;
    }

    /** Tries all rows in rising order, hour by hour. */
    private void rows(List<Integer> left, int held, int hour, List<Integer> row, int[] best) {
        if (left.isEmpty()) {
            if (hour - now.hour < best[0]) {
                best[0] = hour - now.hour;
                best[1] = 0;
                for (int r : row) {
                    best[1] = best[1] * 10 + r;
                }
                best[3] = row.get(0);
            }
            return;
        }
        for (int r : new ArrayList<>(left)) {
            if (!wants(r).stream().allMatch(w -> has(held, w))) {
                continue;
            }
            int done = 0;
            int h = hour;
            while (done < deskOf(r)[2]) {
                done += isOpen(hill.papers.get(r)[0], h) ? 1 : 0;
                h++;
            }
            left.remove((Integer) r);
            row.add(r);
            rows(left, held | 1 << r, h, row, best);
            row.remove(row.size() - 1);
            left.add(r);
            Collections.sort(left);
        }
    }

    int soonest(int p, int what) {
        if (!isParish(p) || what < 0 || what > 2) {
            return NONE;
        }
        int[] best = best(p, now.held.get(p));
        return best == null ? NONE : best[what];
    }

    int waived(int p) {
        if (!isParish(p)) {
            return NONE;
        }
        for (int size = 0; size <= 8; size++) {
            for (int set = 0; set < 1 << hill.papers.size(); set++) {
                if (Integer.bitCount(set) == size && best(p, now.held.get(p) | set) != null) {
                    return set;
                }
            }
        }
        throw new IllegalStateException("the FORM is always enough");
    }

    int earliest() {
        int best = NONE;
        for (int p = 0; hill != null && p < hill.parishes.size(); p++) {
            int hours = soonest(p, 0);
            if (hours != NONE && (best == NONE || hours < soonest(best, 0))) {
                best = p;
            }
        }
        return best;
    }

    int share(int row, int p) {
        if (!isParish(p) || hill.parishes.size() > 5 || row < 0) {
            return HIDDEN;
        }
        int n = hill.parishes.size();
        StringBuilder digits = new StringBuilder("" + row);
        while (digits.length() < n) {
            digits.insert(0, '0');
        }
        if (digits.length() > n) {
            return HIDDEN;
        }
        List<Integer> papers = new ArrayList<>();
        for (int k = 0; k < n; k++) {
            int r = digits.charAt(k) - '0';
            if (hill.parishes.stream().noneMatch(q -> q[0] == r)) {
                return HIDDEN;
            }
            papers.add(r);
        }
        return light(papers).get(p);
    }

    int rests(int i) {
        if (hill == null) {
            return NONE;
        }
        int n = hill.parishes.size();
        if (n > 5) {
            return HIDDEN;
        }
        List<Integer> found = new ArrayList<>();
        int end = (int) Math.round(Math.pow(10, n));
        for (int row = 0; row < end; row++) {
            if (share(row, 0) != HIDDEN && rest(row, n)) {
                found.add(row);
            }
        }
        return i == NONE ? found.size() : i < 0 || i >= found.size() ? NONE : found.get(i);
    }

    private boolean rest(int row, int n) {
        int place = 1;
        for (int p = n - 1; p >= 0; p--) {
            int own = row / place % 10;
            for (int r = 0; r < 8; r++) {
                int other = row + (r - own) * place;
                if (share(other, p) != HIDDEN && share(other, p) > share(row, p)) {
                    return false;
                }
            }
            place *= 10;
        }
        return true;
    }

    int bribes(int g, int f, int c, int what) {
        for (int v : new int[] {g, f, c}) {
            if (v < 1 || v > 99) {
                return NONE;
            }
        }
        if (what < 0 || what > 3) {
            return NONE;
        }
        int[] all = c < f ? new int[] {c, f, g, g + f} : new int[] {1, 1, 0, 1};
        for (int k = 0; k < 4; k += 2) {
            for (int d = 200; d > 1; d--) {
                if (all[k] % d == 0 && all[k + 1] % d == 0) {
                    all[k] /= d;
                    all[k + 1] /= d;
                }
            }
        }
        return all[what];
    }

    int see(int p, int hours) {
        if (!isParish(p) || hours < 0 || hours > 24 || seen.size() == 12) {
            return NONE;
        }
        seen.add(new int[] {p, hours});
        return seen.size();
    }

    private int falsehoods(int set) {
        List<Integer> papers = new ArrayList<>();
        for (int p = 0; p < hill.parishes.size(); p++) {
            papers.add(has(set, p) ? form(p) : null);
        }
        List<Integer> light = light(papers);
        int wrong = 0;
        for (int[] s : seen) {
            wrong += light.get(s[0]) == s[1] ? 0 : 1;
        }
        return wrong;
    }

    private List<Integer> sets() {
        List<Integer> sets = new ArrayList<>();
        for (int set = 0; set < 1 << hill.parishes.size(); set++) {
            if (falsehoods(set) == 0) {
                sets.add(set);
            }
        }
        return sets;
    }

    int could(int i) {
        if (hill == null) {
            return NONE;
        }
        List<Integer> sets = sets();
        return i == NONE ? sets.size() : i < 0 || i >= sets.size() ? NONE : sets.get(i);
    }

    int sure() {
        if (hill == null || sets().isEmpty()) {
            return NONE;
        }
        int sure = 63;
        for (int set : sets()) {
            sure &= set;
        }
        return sure;
    }

    int wrong() {
        if (hill == null) {
            return NONE;
        }
        int fewest = 12;
        for (int set = 0; set < 1 << hill.parishes.size(); set++) {
            fewest = Math.min(fewest, falsehoods(set));
        }
        return fewest;
    }

    int works(int n, int what) {
        if (hill == null || n < 1 || n > 9 || what < 0 || what > 1 || now.log.size() < n) {
            return NONE;
        }
        int first = 0;
        int most = -1;
        for (int i = 0; i + n <= now.log.size(); i++) {
            int sum = now.log.subList(i, i + n).stream().mapToInt(row -> row[1]).sum();
            if (sum > most) {
                most = sum;
                first = i;
            }
        }
        return what == 0 ? first : most;
    }

    int image() {
        if (hill == null) {
            return NONE;
        }
        image = now.copy();
        return now.hour;
    }

    int back() {
        if (image == null) {
            return NONE;
        }
        now = image.copy();
        acts.clear();
        return now.hour;
    }

    int count(int what) {
        switch (what) {
            case 0: return hill == null ? 0 : hill.parishes.size();
            case 1: return hill == null ? 0 : hill.desks.size();
            case 2: return hill == null ? 0 : hill.papers.size();
            case 3: return rules.size();
            case 4: return orders.size();
            case 5: return tape.length();
            case 6: return holding;
            case 7: return now.hour;
            case 8: return eclipse;
            case 9: return seen.size();
            case 10: return now.log.size();
            case 11: return acts.size();
            default: return HIDDEN;
        }
    }
}
