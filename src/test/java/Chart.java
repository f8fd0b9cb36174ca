import java.util.ArrayList;
import java.util.Arrays;
import java.util.HashMap;
import java.util.HashSet;
import java.util.List;
import java.util.Map;
import java.util.Set;

/** A grammar told as rules, and all ways (after Earley) in which the signs taken so far may be the beginning of a text by it. */
final class Chart {
    private static final int PLACE = 10;

    private final Map<String, List<Integer>> rules = new HashMap<>();
    private final List<String> lefts = new ArrayList<>();
    private final List<String[]> rights = new ArrayList<>();
    private final Set<String> mayBeEmpty = new HashSet<>();
    /** Behind each sign what is under way: a rule, how much of it is there, where it began. */
    private final List<List<Long>> sets = new ArrayList<>();
    private String start;

    Chart() {
        adjoining("B", "", "B _");
    }

    /** Parts with a blank between; a part of capitals is a rule's name, others are signs, behind each of which blanks may stand. */
    void rule(String left, String... alternatives) {
        for (String a : alternatives) {
            StringBuilder spaced = new StringBuilder();
            for (String part : a.split(" ")) {
                spaced.append(part).append(isSign(part) ? " B " : " ");
            }
            adjoining(left, spaced.toString().trim());
        }
    }

    /** The same without blanks between the signs; _ is a blank. */
    void adjoining(String left, String... alternatives) {
        for (String a : alternatives) {
            rules.computeIfAbsent(left, l -> new ArrayList<>()).add(lefts.size());
            lefts.add(left);
            rights.add(a.isEmpty() ? new String[0] : a.split(" "));
        }
    }

    private static boolean isSign(String part) {
        return part.length() == 1 && !Character.isUpperCase(part.charAt(0));
    }

    void begin(String name) {
        start = name;
        for (int i = 0; i < lefts.size(); i++) {
            for (int r = 0; r < lefts.size(); r++) {
                if (mayBeEmpty.containsAll(Arrays.asList(rights.get(r)))) {
                    mayBeEmpty.add(lefts.get(r));
                }
            }
        }
        sets.clear();
        List<Long> first = new ArrayList<>();
        for (int r : rules.get(start)) {
            first.add(item(r, 0, 0));
        }
        close(first);
    }

    int length() {
        return sets.size() - 1;
    }

    private static long item(int rule, int dot, int from) {
        return ((long) rule << PLACE | dot) << PLACE | from;
    }

    private String[] right(long item) {
        return rights.get((int) (item >> 2 * PLACE));
    }

    private String left(long item) {
        return lefts.get((int) (item >> 2 * PLACE));
    }

    private static int dot(long item) {
        return (int) (item >> PLACE) & (1 << PLACE) - 1;
    }

    private static int from(long item) {
        return (int) item & (1 << PLACE) - 1;
    }

    private String next(long item) {
        return dot(item) < right(item).length ? right(item)[dot(item)] : "";
    }

    private static long on(long item) {
        return item + (1L << PLACE);
    }

    /** Adds all that these lead to without another sign. */
    private void close(List<Long> set) {
        int here = sets.size();
        sets.add(set);
        Set<Long> seen = new HashSet<>(set);
        for (int k = 0; k < set.size(); k++) {
            long item = set.get(k);
            List<Long> more = new ArrayList<>();
            if (next(item).isEmpty()) {
                for (long outer : sets.get(from(item))) {
                    if (next(outer).equals(left(item))) {
                        more.add(on(outer));
                    }
                }
            } else if (!isSign(next(item))) {
                for (int r : rules.getOrDefault(next(item), List.of())) {
                    more.add(item(r, 0, here));
                }
                if (mayBeEmpty.contains(next(item))) {
                    more.add(on(item));
                }
            }
            for (long m : more) {
                if (seen.add(m)) {
                    set.add(m);
                }
            }
        }
    }

    /** Takes a sign; false if no text can go on so. */
    boolean take(char sign) {
        String wanted = sign == ' ' ? "_" : "" + sign;
        List<Long> set = new ArrayList<>();
        for (long item : sets.get(length())) {
            if (next(item).equals(wanted)) {
                set.add(on(item));
            }
        }
        if (!set.isEmpty()) {
            close(set);
        }
        return !set.isEmpty();
    }

    void takeBack() {
        sets.remove(length());
    }

    /** Whether what was taken is a whole text. */
    boolean isWhole() {
        for (long item : sets.get(length())) {
            if (left(item).equals(start) && from(item) == 0 && next(item).isEmpty()) {
                return true;
            }
        }
        return false;
    }
}
