import java.util.ArrayDeque;
import java.util.ArrayList;
import java.util.Arrays;
import java.util.Collections;
import java.util.Deque;
import java.util.HashMap;
import java.util.HashSet;
import java.util.List;
import java.util.Map;
import java.util.Set;
import java.util.TreeSet;

/** The document told a second time, by lists and sets and by trying all; only tests use it. */
final class Model {
    static final int NONE = -1;
    static final int UNKNOWN = -1000000001;
    static final int OUTSIDE = -1000000002;
    static final int NOT = -1000000003;
    static final int FULL = -1000000004;

    /** What section 2 changes. */
    private static final class Now {
        int hours;
        int holes;
        int meetings;
        List<int[]> log = new ArrayList<>();
        Set<Integer> inside = new TreeSet<>();
        Set<Integer> cold = new TreeSet<>();
        Map<Integer, Integer> waits = new HashMap<>();
        List<Integer> usedAt = new ArrayList<>();
        Set<Integer> rusted = new TreeSet<>();

        Now copy() {
            Now c = new Now();
            c.hours = hours;
            c.holes = holes;
            c.meetings = meetings;
            c.log.addAll(log);
            c.inside.addAll(inside);
            c.cold.addAll(cold);
            c.waits.putAll(waits);
            c.usedAt.addAll(usedAt);
            c.rusted.addAll(rusted);
            return c;
        }
    }

    private record Image(Now now, long seed) {
    }

    private record Word(char kind, int at, String figures) {
    }

    private final StringBuilder text = new StringBuilder();
    private List<Integer> rust = new ArrayList<>();
    private int persons = 0;
    private Map<List<Integer>, Integer> liking = new HashMap<>();
    private Now now = new Now();
    private final Deque<Now> undos = new ArrayDeque<>();
    private final Map<Integer, Image> images = new HashMap<>();
    private final List<int[]> known = new ArrayList<>();
    private final List<int[]> book = new ArrayList<>();
    private long seed = 0;
    private int faultAt = NONE;

    int feed(int letter) {
        if (letter < 0 || letter > 255) {
            return OUTSIDE;
        }
        if (text.length() == 240) {
            return FULL;
        }
        text.append((char) letter);
        return text.length();
    }

    private static List<Word> words(String s) {
        List<Word> words = new ArrayList<>();
        for (int i = 0; i < s.length();) {
            int start = i;
            while (i < s.length() && "0123456789".indexOf(s.charAt(i)) >= 0) {
                i++;
            }
            if (i > start) {
                words.add(new Word('n', start, s.substring(start, i)));
            } else {
                if (s.charAt(i) != ' ') {
                    words.add(new Word(s.charAt(i) == 'n' ? '?' : s.charAt(i), i, ""));
                }
                i++;
            }
        }
        words.add(new Word('.', s.length(), ""));
        return words;
    }

    /** Whether a number is bad where it stands; the numbers ahead of it in its clause are fine. */
    private static int faultOfNumber(char clause, List<Integer> ahead, String figures, int people, Set<List<Integer>> pairs) {
        if (figures.length() > 3) {
            return 2;
        }
        int v = Integer.parseInt(figures);
        int place = ahead.size();
        if (clause == 'g') {
            return v < 1 || v > 99 ? 2 : 0;
        }
        if (clause == 'p') {
            return v > 1 ? 2 : 0;
        }
        if (place == 2) {
            return v > 9 ? 2 : 0;
        }
        if (v >= people) {
            return 2;
        }
        return place == 1 && (v == ahead.get(0) || pairs.contains(List.of(ahead.get(0), v))) ? 4 : 0;
    }

    int common() {
        List<Word> words = words(text.toString());
        text.setLength(0);
        List<Integer> gates = new ArrayList<>();
        List<int[]> people = new ArrayList<>();
        Map<List<Integer>, Integer> pairs = new HashMap<>();
        char clause = ' ';
        List<Integer> numbers = new ArrayList<>();
        int fault = 0;
        for (Word w : words) {
            int wanted = clause == 'g' ? 1 : clause == 'p' ? 2 : 3;
            if (clause == ' ') {
                if (w.kind == '.') {
                    break;
                }
                fault = "gpl".indexOf(w.kind) < 0 ? 1
                    : w.kind == 'g' && gates.size() == 5 || w.kind == 'p' && people.size() == 7 ? 3 : 0;
                clause = w.kind;
            } else if (numbers.size() < wanted) {
                fault = w.kind != 'n' ? 1 : faultOfNumber(clause, numbers, w.figures, people.size(), pairs.keySet());
                if (fault == 0) {
                    numbers.add(Integer.parseInt(w.figures));
                }
            } else {
                fault = w.kind != ';' ? 1 : 0;
                if (fault == 0 && clause == 'g') {
                    gates.add(numbers.get(0));
                } else if (fault == 0 && clause == 'p') {
                    people.add(new int[] {numbers.get(0), numbers.get(1)});
                } else if (fault == 0) {
                    pairs.put(List.of(numbers.get(0), numbers.get(1)), numbers.get(2));
                }
                clause = ' ';
                numbers = new ArrayList<>();
            }
            if (fault != 0) {
                faultAt = w.at;
                return -10 - fault;
            }
        }
        faultAt = NONE;
        rust = gates;
        persons = people.size();
        liking = pairs;
        now = new Now();
        for (int p = 0; p < persons; p++) {
            if (people.get(p)[0] == 1) {
                now.inside.add(p);
            }
            if (people.get(p)[1] == 1) {
                now.cold.add(p);
            }
        }
        for (int g = 0; g < rust.size(); g++) {
            now.usedAt.add(0);
        }
        undos.clear();
        images.clear();
        known.clear();
        book.clear();
        return persons;
    }

    int fault() {
        return faultAt;
    }

    private static int bits(Iterable<Integer> set) {
        int bits = 0;
        for (int k : set) {
            bits += 1 << k;
        }
        return bits;
    }

    int told(int what) {
        int[] all = {rust.size(), persons, text.length(), now.hours, now.meetings, now.holes, bits(now.inside),
            bits(now.cold), bits(now.waits.keySet()), bits(now.rusted), now.log.size(), known.size(), book.size(),
            undos.size()};
        return what < 0 || what >= all.length ? OUTSIDE : all[what];
    }

    private boolean noGate(int g) {
        return g < 0 || g >= rust.size();
    }

    private boolean noPerson(int p) {
        return p < 0 || p >= persons;
    }

    private int idle(int g) {
        return Math.min(rust.get(g), now.hours - now.usedAt.get(g));
    }

    private List<Integer> at(int g) {
        List<Integer> there = new ArrayList<>();
        for (int p = 0; p < persons; p++) {
            if (now.waits.containsKey(p) && now.waits.get(p) == g) {
                there.add(p);
            }
        }
        return there;
    }

    int gate(int g, int what) {
        if (noGate(g)) {
            return UNKNOWN;
        }
        return switch (what) {
            case 0 -> rust.get(g);
            case 1 -> idle(g);
            case 2 -> now.rusted.contains(g) ? 1 : 0;
            case 3 -> bits(at(g));
            default -> OUTSIDE;
        };
    }

    private int liked(int p, int q) {
        return liking.getOrDefault(List.of(p, q), 0);
    }

    private boolean would(int p, int q, Set<Integer> inside) {
        return inside.contains(p) != inside.contains(q) && liked(p, q) >= 1 && liked(q, p) >= 1;
    }

    int person(int p, int what) {
        if (noPerson(p)) {
            return UNKNOWN;
        }
        List<Integer> whom = new ArrayList<>();
        for (int q = 0; q < persons; q++) {
            if (would(p, q, now.inside)) {
                whom.add(q);
            }
        }
        return switch (what) {
            case 0 -> now.inside.contains(p) ? 1 : 0;
            case 1 -> now.waits.getOrDefault(p, NONE);
            case 2 -> now.cold.contains(p) ? 1 : 0;
            case 3 -> bits(whom);
            default -> OUTSIDE;
        };
    }

    int likes(int p, int q) {
        return noPerson(p) || noPerson(q) || p == q ? UNKNOWN : liked(p, q);
    }

    int logged(int i) {
        if (i < 0 || i >= now.log.size()) {
            return NONE;
        }
        int[] pair = now.log.get(now.log.size() - 1 - i);
        return 10 * pair[0] + pair[1];
    }

    private void remember() {
        undos.addLast(now.copy());
        if (undos.size() > 20) {
            undos.removeFirst();
        }
    }

    private static void turn(Set<Integer> inside, int p) {
        if (!inside.remove(p)) {
            inside.add(p);
        }
    }

    private void anHour() {
        for (int g = 0; g < rust.size(); g++) {
            if (now.rusted.contains(g)) {
                continue;
            }
            int[] best = null;
            for (int p : at(g)) {
                for (int q : at(g)) {
                    if (p < q && would(p, q, now.inside)
                        && (best == null || liked(p, q) + liked(q, p) > liked(best[0], best[1]) + liked(best[1], best[0]))) {
                        best = new int[] {p, q};
                    }
                }
            }
            if (best != null) {
                boolean sick = now.cold.contains(best[0]) || now.cold.contains(best[1]);
                for (int p : best) {
                    turn(now.inside, p);
                    now.waits.remove(p);
                    if (sick) {
                        now.cold.add(p);
                    }
                }
                now.meetings++;
                now.log.add(best);
                if (now.log.size() > 20) {
                    now.log.remove(0);
                }
                now.usedAt.set(g, now.hours + 1);
            }
        }
        now.hours++;
        for (int g = 0; g < rust.size(); g++) {
            if (now.hours - now.usedAt.get(g) >= rust.get(g)) {
                now.rusted.add(g);
            }
        }
    }

    private int refused(int n) {
        return n < 1 || n > 60 ? OUTSIDE : rust.isEmpty() ? NOT : now.hours > 9000 ? FULL : 0;
    }

    int hour(int n) {
        if (refused(n) != 0) {
            return refused(n);
        }
        remember();
        for (int i = 0; i < n; i++) {
            anHour();
        }
        return now.hours;
    }

    int come(int p, int g) {
        if (noPerson(p) || noGate(g)) {
            return UNKNOWN;
        }
        if (now.rusted.contains(g) || at(g).contains(p)) {
            return NOT;
        }
        remember();
        now.waits.put(p, g);
        return bits(at(g));
    }

    int goOff(int p) {
        if (noPerson(p)) {
            return UNKNOWN;
        }
        if (!now.waits.containsKey(p)) {
            return NOT;
        }
        remember();
        return now.waits.remove(p);
    }

    int hole(int p) {
        if (noPerson(p)) {
            return UNKNOWN;
        }
        if (now.waits.containsKey(p)) {
            return NOT;
        }
        remember();
        now.holes++;
        turn(now.inside, p);
        return now.inside.contains(p) ? 1 : 0;
    }

    int oil(int g) {
        if (noGate(g)) {
            return UNKNOWN;
        }
        remember();
        now.usedAt.set(g, now.hours);
        return now.rusted.remove(g) ? 1 : 0;
    }

    int well(int p) {
        if (noPerson(p)) {
            return UNKNOWN;
        }
        remember();
        return now.cold.remove(p) ? 1 : 0;
    }

    private int draw(int n) {
        seed = (seed * 1103515245L + 12345L) % (1L << 31);
        return (int) (seed / 65536 % n);
    }

    int drift(int n) {
        if (refused(n) != 0) {
            return refused(n);
        }
        remember();
        for (int i = 0; i < n; i++) {
            if (persons > 0) {
                int p = draw(persons);
                int g = draw(rust.size());
                if (!now.rusted.contains(g)) {
                    now.waits.put(p, g);
                }
            }
            anHour();
        }
        return now.meetings;
    }

    int undo() {
        if (undos.isEmpty()) {
            return NOT;
        }
        now = undos.removeLast();
        return undos.size();
    }

    /** All sets of pairs that WOULD meet at once, no person twice, no more than gates not rusted. */
    private List<List<int[]>> meetings(Set<Integer> inside) {
        List<List<int[]>> all = new ArrayList<>();
        all.add(new ArrayList<>());
        for (int p = 0; p < persons; p++) {
            for (int q = p + 1; q < persons; q++) {
                if (!would(p, q, inside)) {
                    continue;
                }
                List<List<int[]>> more = new ArrayList<>();
                for (List<int[]> pairs : all) {
                    boolean free = pairs.size() < rust.size() - now.rusted.size();
                    for (int[] pair : pairs) {
                        free &= pair[0] != p && pair[0] != q && pair[1] != p && pair[1] != q;
                    }
                    if (free) {
                        List<int[]> longer = new ArrayList<>(pairs);
                        longer.add(new int[] {p, q});
                        more.add(longer);
                    }
                }
                all.addAll(more);
            }
        }
        return all;
    }

    private int[] others(List<int[]> pairs) {
        int[] other = new int[persons];
        Arrays.fill(other, 99);
        for (int[] pair : pairs) {
            other[pair[0]] = pair[1];
            other[pair[1]] = pair[0];
        }
        return other;
    }

    private int much(List<int[]> pairs) {
        int much = 0;
        for (int[] pair : pairs) {
            much += liked(pair[0], pair[1]) + liked(pair[1], pair[0]);
        }
        return much;
    }

    private List<int[]> best() {
        return Collections.min(meetings(now.inside), (a, b) -> a.size() != b.size() ? b.size() - a.size()
            : much(a) != much(b) ? much(b) - much(a) : Arrays.compare(others(a), others(b)));
    }

    int atOnce(int p) {
        if (p < -2 || p >= persons) {
            return UNKNOWN;
        }
        List<int[]> best = best();
        if (p == -1) {
            return best.size();
        }
        if (p == -2) {
            return much(best);
        }
        return others(best)[p] == 99 ? NONE : others(best)[p];
    }

    int sides(int set, int inside) {
        if (set < 0 || inside < 0 || set >= 1 << persons || inside >= 1 << persons) {
            return UNKNOWN;
        }
        Set<Set<Integer>> reached = new HashSet<>();
        reached.add(now.inside);
        for (int h = 0; h <= 40; h++) {
            for (Set<Integer> in : reached) {
                if ((bits(in) & set) == (inside & set)) {
                    return h;
                }
            }
            Set<Set<Integer>> next = new HashSet<>();
            for (Set<Integer> in : reached) {
                for (List<int[]> pairs : meetings(in)) {
                    Set<Integer> then = new TreeSet<>(in);
                    for (int[] pair : pairs) {
                        turn(then, pair[0]);
                        turn(then, pair[1]);
                    }
                    next.add(then);
                }
            }
            if (next.equals(reached)) {
                return NONE;
            }
            reached = next;
        }
        return NONE;
    }

    int steady() {
        int[] other = others(best());
        for (int p = 0; p < persons; p++) {
            for (int q = 0; q < persons; q++) {
                int mine = other[p] == 99 ? 0 : liked(p, other[p]);
                int its = other[q] == 99 ? 0 : liked(q, other[q]);
                if (would(p, q, now.inside) && liked(p, q) > mine && liked(q, p) > its) {
                    return 0;
                }
            }
        }
        return 1;
    }

    int loves(int i) {
        int[] most = new int[persons];
        for (int p = 0; p < persons; p++) {
            for (int q = 0; q < persons; q++) {
                most[p] = Math.max(most[p], liked(p, q));
            }
        }
        List<Integer> pairs = new ArrayList<>();
        for (int code = 0; code < 77; code++) {
            int p = code / 10;
            int q = code % 10;
            if (p < q && q < persons && most[p] > 0 && most[q] > 0 && liked(p, q) == most[p] && liked(q, p) == most[q]) {
                pairs.add(code);
            }
        }
        return i == NONE ? pairs.size() : i < 0 || i >= pairs.size() ? NONE : pairs.get(i);
    }

    private Set<Integer> sickBy(int p) {
        Set<Integer> sick = new TreeSet<>(List.of(p));
        for (int[] pair : now.log) {
            if (sick.contains(pair[0]) || sick.contains(pair[1])) {
                sick.add(pair[0]);
                sick.add(pair[1]);
            }
        }
        return sick;
    }

    int first() {
        List<Integer> all = new ArrayList<>();
        for (int p = 0; p < persons; p++) {
            if (sickBy(p).equals(now.cold)) {
                all.add(p);
            }
        }
        return bits(all);
    }

    int dies(int what) {
        if (what < 0 || what > 1) {
            return OUTSIDE;
        }
        for (int h = 1; h <= 99; h++) {
            for (int g = 0; g < rust.size(); g++) {
                if (!now.rusted.contains(g) && now.hours + h - now.usedAt.get(g) == rust.get(g)) {
                    return what == 0 ? g : h;
                }
            }
        }
        return NONE;
    }

    int oilFor(int n) {
        if (n < 0 || n > 200) {
            return OUTSIDE;
        }
        int[] idle = new int[rust.size()];
        for (int g = 0; g < idle.length; g++) {
            idle[g] = idle(g);
        }
        int oiled = 0;
        for (int h = 0; h < n; h++) {
            for (int g = 0; g < idle.length; g++) {
                if (idle[g] == rust.get(g)) {
                    oiled++;
                    idle[g] = 0;
                }
                idle[g]++;
            }
        }
        return oiled;
    }

    int evening(int p) {
        if (noPerson(p)) {
            return UNKNOWN;
        }
        if (!now.waits.containsKey(p)) {
            return NOT;
        }
        int paid = 10;
        for (int q : at(now.waits.get(p))) {
            paid -= would(p, q, now.inside) ? 1 : 0;
        }
        return paid;
    }

    int dry(int n, int q) {
        if (n < 0 || n > 60 || q < 0 || q > 100) {
            return OUTSIDE;
        }
        return n == 0 ? 1000000000 : (int) ((long) dry(n - 1, q) * (100 - q) / 100);
    }

    int ill(int p, boolean is) {
        if (noPerson(p)) {
            return UNKNOWN;
        }
        if (known.size() == 6) {
            return FULL;
        }
        known.add(new int[] {p, is ? 1 : 0});
        return known.size();
    }

    private List<Integer> suspects() {
        List<Integer> all = new ArrayList<>();
        for (int p = 0; p < persons; p++) {
            boolean fits = true;
            for (int[] k : known) {
                fits &= sickBy(p).contains(k[0]) == (k[1] == 1);
            }
            if (fits) {
                all.add(p);
            }
        }
        return all;
    }

    int mayBe() {
        return bits(suspects());
    }

    int ask() {
        List<Integer> suspects = suspects();
        int best = NONE;
        int least = 99;
        for (int q = 0; q < persons; q++) {
            List<Integer> with = new ArrayList<>();
            List<Integer> without = new ArrayList<>();
            for (int p : suspects) {
                (sickBy(p).contains(q) ? with : without).add(p);
            }
            int greatest = Math.max(with.size(), without.size());
            if (!with.isEmpty() && !without.isEmpty() && greatest < least) {
                best = q;
                least = greatest;
            }
        }
        return best;
    }

    int write(int p, int inside) {
        if (noPerson(p)) {
            return UNKNOWN;
        }
        if (inside < 0 || inside > 1) {
            return OUTSIDE;
        }
        if (book.size() == 15) {
            return FULL;
        }
        book.add(new int[] {p, inside});
        return book.size();
    }

    int tear() {
        int both = known.size() + book.size();
        known.clear();
        book.clear();
        return both;
    }

    int judge() {
        for (int i = 0; i < book.size(); i++) {
            if (now.inside.contains(book.get(i)[0]) != (book.get(i)[1] == 1)) {
                return i;
            }
        }
        return NONE;
    }

    int seed(int v) {
        if (v < 0) {
            return OUTSIDE;
        }
        int was = (int) seed;
        seed = v;
        return was;
    }

    int keep(int i) {
        if (i != 0 && i != 1) {
            return UNKNOWN;
        }
        images.put(i, new Image(now.copy(), seed));
        undos.clear();
        return 1;
    }

    int goBack(int i) {
        if (i != 0 && i != 1) {
            return UNKNOWN;
        }
        Image image = images.get(i);
        if (image == null) {
            return NOT;
        }
        now = image.now().copy();
        seed = image.seed();
        undos.clear();
        return 1;
    }
}
