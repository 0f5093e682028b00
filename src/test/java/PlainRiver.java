import java.math.BigInteger;
import java.util.ArrayList;
import java.util.HashSet;
import java.util.LinkedHashMap;
import java.util.List;
import java.util.Map;
import java.util.Set;

/** The document again, word by word and without any thought of speed: what RoadRiver is held against. */
final class PlainRiver {
    private static final int NONE = -1, BAD = -2, NOT = -3, FULL = -4;

    private record Dike(int from, int to, int day) { }

    private record Contract(int day, int pays, int costs) { }

    private record Fact(int day, int yard, int is) { }

    /** A fraction that is kept in lowest terms. */
    private record Mean(BigInteger above, BigInteger below) {
        static Mean of(long above, long below) {
            return lowest(BigInteger.valueOf(above), BigInteger.valueOf(below));
        }

        static Mean lowest(BigInteger above, BigInteger below) {
            BigInteger divisor = above.gcd(below);
            return new Mean(above.divide(divisor), below.divide(divisor));
        }

        Mean plus(Mean other) {
            return lowest(above.multiply(other.below).add(other.above.multiply(below)),
                    below.multiply(other.below));
        }

        Mean times(Mean other) {
            return lowest(above.multiply(other.above), below.multiply(other.below));
        }

        int compare(Mean other) {
            return above.multiply(other.below).compareTo(other.above.multiply(below));
        }
    }

    private final String[] texts = {"", "", "", ""};
    private final int[] terms = {3, 29, 5, 3, 1, 4, 1};
    private final int[] odds = {1, 1, 1};
    private final List<Dike> dikes = new ArrayList<>();
    private final Map<Integer, Contract> contracts = new LinkedHashMap<>();
    private final List<Fact> facts = new ArrayList<>();
    private final Object[] sheets = new Object[4];
    private int finding = 0;

    private static boolean out(int v, int least, int most) {
        return v < least || v > most;
    }

    private String figures(int text) {
        return texts[text].matches("[0-9]*") ? texts[text] : "";
    }

    private boolean noYard(int yard) {
        return out(yard, 0, figures(3).length() - 1);
    }

    private int find(int number) {
        finding = number;
        return -10 - number;
    }

    int type(int text, int b) {
        if (out(text, 0, 3) || out(b, 0, 255)) return BAD;
        if (texts[text].length() == (text == 3 ? 12 : 30)) return FULL;
        texts[text] += (char) b;
        return texts[text].length();
    }

    int undo(int text) {
        if (out(text, 0, 3)) return BAD;
        if (texts[text].isEmpty()) return NOT;
        texts[text] = texts[text].substring(0, texts[text].length() - 1);
        return texts[text].length();
    }

    int wipe(int text) {
        if (out(text, 0, 3)) return BAD;
        int had = texts[text].length();
        texts[text] = "";
        return had;
    }

    int fault(int text) {
        if (out(text, 0, 3)) return BAD;
        for (int i = 0; i < texts[text].length(); i++) {
            if ("0123456789".indexOf(texts[text].charAt(i)) < 0) return i;
        }
        return NONE;
    }

    int height(int yard) {
        return noYard(yard) ? BAD : figures(3).charAt(yard) - '0';
    }

    int level(int spring, int day) {
        if (out(spring, 0, 2) || out(day, 0, 29)) return BAD;
        String told = figures(spring);
        return day < told.length() ? told.charAt(day) - '0' : 0;
    }

    int set(int what, int v) {
        if (out(what, 0, 6)) return BAD;
        int[][] limits = {{0, 9}, {0, 29}, {0, 99}, {1, 9}, {0, 99}, {0, 99}, {0, 9}};
        if (out(v, limits[what][0], limits[what][1])) return BAD;
        int was = terms[what];
        terms[what] = v;
        return was;
    }

    int odds(int spring, int v) {
        if (out(spring, 0, 2) || out(v, 0, 99)) return BAD;
        int was = odds[spring];
        odds[spring] = v;
        return was;
    }

    int dike(int from, int to, int day) {
        if (out(from, 0, 11) || out(to, from, 11) || out(day, 0, 29)) return BAD;
        if (dikes.size() == 8) return FULL;
        dikes.add(new Dike(from, to, day));
        return dikes.size();
    }

    int read(int s) {
        if (out(s, 0, 3)) return BAD;
        if (sheets[s] == null) return find(1);
        int came = 0;
        for (int i = 0; i + 3 <= size(s); i += 3) {
            if (dike(item(s, i), item(s, i + 1), item(s, i + 2)) < 0) break;
            came++;
        }
        return came;
    }

    int breaks() {
        if (dikes.isEmpty()) return NOT;
        dikes.remove(dikes.size() - 1);
        return dikes.size();
    }

    int possession(int spring) {
        if (out(spring, 0, 2)) return BAD;
        for (int day = 0; day <= terms[1]; day++) {
            if (level(spring, day) >= terms[0]) return day;
        }
        return NONE;
    }

    private boolean isWet(int spring, int day, int yard, List<Dike> by) {
        int first = possession(spring);
        if (first == NONE || day < first || day > terms[1]) return false;
        for (Dike d : by) {
            if (d.from <= yard && yard <= d.to && d.day <= day && day <= d.day + 6) return false;
        }
        return level(spring, day) > height(yard);
    }

    int wet(int spring, int day, int yard) {
        if (out(spring, 0, 2) || out(day, 0, 29) || noYard(yard)) return BAD;
        return isWet(spring, day, yard, dikes) ? 1 : 0;
    }

    int water(int spring, int day, int what) {
        if (out(spring, 0, 2) || out(day, 0, 29) || out(what, 0, 1)) return BAD;
        int bits = 0;
        for (int yard = 0; !noYard(yard); yard++) {
            boolean isIsland = wet(spring, day, yard) == 0
                    && wet(spring, day, yard - 1) == 1 && wet(spring, day, yard + 1) == 1;
            if (what == 0 ? wet(spring, day, yard) == 1 : isIsland) bits += 1 << yard;
        }
        return bits;
    }

    int cost(int spring, int day, int from, int to, int what) {
        if (out(spring, 0, 2) || out(day, 0, 29) || noYard(from) || noYard(to) || out(what, 0, 2)) return BAD;
        StringBuilder way = new StringBuilder();
        for (int yard = Math.min(from, to); yard <= Math.max(from, to); yard++) {
            way.append(wet(spring, day, yard) == 1 ? 'w' : 'd');
        }
        int ridge = way.length() * terms[3];
        int road = 0;
        for (char c : way.toString().replaceAll("w+", "w").toCharArray()) {
            road += c == 'w' ? terms[2] : 1;
        }
        return what == 0 ? Math.min(road, ridge) : what == 1 ? road : ridge;
    }

    int closed(int spring, int yard) {
        if (out(spring, 0, 2) || noYard(yard)) return BAD;
        int days = 0;
        for (int day = 0; day < 30; day++) days += wet(spring, day, yard);
        return days;
    }

    int deed(int spring, int what) {
        if (out(spring, 0, 2) || out(what, 0, 2)) return -100002;
        int gravel = 0;
        int days = 0;
        for (int yard = 0; !noYard(yard); yard++) gravel += closed(spring, yard);
        for (int day = 0; day < 30; day++) days += water(spring, day, 0) != 0 ? 1 : 0;
        return what == 0 ? gravel : what == 1 ? days : terms[4] * gravel - terms[5] * days;
    }

    private int oddsOf(List<Integer> springs) {
        int sum = 0;
        for (int spring : springs) sum += odds[spring];
        return sum;
    }

    private List<Integer> alike(int spring, int day) {
        List<Integer> springs = new ArrayList<>();
        for (int other = 0; other < 3; other++) {
            boolean same = true;
            for (int d = 0; d <= day; d++) same &= level(spring, d) == level(other, d);
            if (same) springs.add(other);
        }
        return springs;
    }

    /** What it means to wait for the next day, by what its level may turn out to be. */
    private Mean waiting(List<Integer> springs, int day, int from, int to) {
        Map<Integer, List<Integer>> byLevel = new LinkedHashMap<>();
        for (int spring : springs) {
            byLevel.computeIfAbsent(level(spring, day + 1), k -> new ArrayList<>()).add(spring);
        }
        Mean mean = Mean.of(terms[6], 1);
        for (List<Integer> group : byLevel.values()) {
            if (oddsOf(group) > 0) {
                mean = mean.plus(best(group, day + 1, from, to).times(Mean.of(oddsOf(group), oddsOf(springs))));
            }
        }
        return mean;
    }

    private boolean atOnce(List<Integer> springs, int day, int from, int to) {
        Mean going = Mean.of(cost(springs.get(0), day, from, to, 0), 1);
        return day == 29 || going.compare(waiting(springs, day, from, to)) <= 0;
    }

    private Mean best(List<Integer> springs, int day, int from, int to) {
        Mean going = Mean.of(cost(springs.get(0), day, from, to, 0), 1);
        if (day == 29) return going;
        Mean staying = waiting(springs, day, from, to);
        return going.compare(staying) <= 0 ? going : staying;
    }

    long waits(int spring, int day, int from, int to, int what) {
        if (out(spring, 0, 2) || out(day, 0, 29) || noYard(from) || noYard(to) || out(what, 0, 1)) {
            return Long.MIN_VALUE + 2;
        }
        List<Integer> springs = alike(spring, day);
        if (oddsOf(springs) == 0) return Long.MIN_VALUE + 3;
        Mean mean = best(springs, day, from, to);
        return (what == 0 ? mean.above : mean.below).longValueExact();
    }

    int goes(int spring, int day, int from, int to) {
        if (out(spring, 0, 2) || out(day, 0, 29) || noYard(from) || noYard(to)) return BAD;
        List<Integer> springs = alike(spring, day);
        if (oddsOf(springs) == 0) return NOT;
        return atOnce(springs, day, from, to) ? 1 : 0;
    }

    /** All dikes that there could be, on the way or not, and none. */
    int keep(int spring, int day, int from, int to, int yards, int what) {
        if (out(spring, 0, 2) || out(day, 0, 29) || noYard(from) || noYard(to)
                || out(yards, 1, 12) || out(what, 0, 2)) return BAD;
        int[] best = {dryDays(spring, day, from, to, dikes), 0, 0};
        for (int first = 11; first >= 0; first--) {
            for (int last = first; last < 12 && last - first < yards; last++) {
                List<Dike> more = new ArrayList<>(dikes);
                more.add(new Dike(first, last, day));
                int[] one = {dryDays(spring, day, from, to, more), first, last - first + 1};
                boolean isBetter = one[0] != best[0] ? one[0] > best[0]
                        : one[2] != best[2] ? one[2] < best[2] : one[1] < best[1];
                if (isBetter) best = one;
            }
        }
        return best[what];
    }

    private int dryDays(int spring, int from, int yardA, int yardB, List<Dike> by) {
        int days = 0;
        for (int day = from; day <= Math.min(29, from + 6); day++) {
            boolean isDry = true;
            for (int yard = Math.min(yardA, yardB); yard <= Math.max(yardA, yardB); yard++) {
                isDry &= !isWet(spring, day, yard, by);
            }
            if (isDry) days++;
        }
        return days;
    }

    int contract(int contract, int day, int pays, int costs) {
        if (out(contract, 0, 7) || out(day, 0, 29) || out(pays, 0, 99) || out(costs, 0, 99)) return BAD;
        return contracts.put(contract, new Contract(day, pays, costs)) == null ? 0 : 1;
    }

    int tears(int contract) {
        if (out(contract, 0, 7)) return BAD;
        return contracts.remove(contract) == null ? 0 : 1;
    }

    private int brings(int bits, int spring) {
        int sum = 0;
        int first = possession(spring);
        for (Map.Entry<Integer, Contract> e : contracts.entrySet()) {
            if ((bits >> e.getKey()) % 2 == 1) {
                Contract c = e.getValue();
                sum += (first != NONE && first <= c.day ? c.pays : 0) - c.costs;
            }
        }
        return sum;
    }

    private List<Integer> safeSets() {
        List<Integer> sets = new ArrayList<>();
        for (int bits = 0; bits < 256; bits++) {
            boolean isSafe = true;
            for (int c = 0; c < 8; c++) isSafe &= (bits >> c) % 2 == 0 || contracts.containsKey(c);
            for (int spring = 0; spring < 3; spring++) {
                isSafe &= odds[spring] == 0 || brings(bits, spring) >= 0;
            }
            if (isSafe) sets.add(bits);
        }
        return sets;
    }

    private Mean mean(int bits) {
        Mean mean = Mean.of(0, 1);
        for (int spring = 0; spring < 3; spring++) {
            if (odds[spring] > 0) {
                mean = mean.plus(Mean.of((long) odds[spring] * brings(bits, spring), count(7)));
            }
        }
        return mean;
    }

    private int bestSet() {
        int best = 0;
        for (int bits : safeSets()) {
            if (mean(bits).compare(mean(best)) > 0) best = bits;
        }
        return best;
    }

    int never(int what) {
        if (out(what, 0, 1)) return BAD;
        return what == 0 ? safeSets().size() : bestSet();
    }

    long gain(int what) {
        if (out(what, 0, 1)) return Long.MIN_VALUE + 2;
        Mean mean = mean(bestSet());
        return (what == 0 ? mean.above : mean.below).longValueExact();
    }

    int watch() {
        int best = 0;
        int most = -1;
        for (int day = 0; day < 30; day++) {
            Set<Integer> kinds = new HashSet<>();
            for (int spring = 0; spring < 3; spring++) {
                if (odds[spring] > 0) kinds.add(level(spring, day));
            }
            if (kinds.size() > most) {
                most = kinds.size();
                best = day;
            }
        }
        return best;
    }

    int fact(int day, int yard, int is) {
        if (out(day, 0, 29) || out(yard, 0, 11) || out(is, 0, 1)) return BAD;
        if (facts.size() == 8) return FULL;
        facts.add(new Fact(day, yard, is));
        return facts.size();
    }

    int forget() {
        int had = facts.size();
        facts.clear();
        return had;
    }

    int fit() {
        int bits = 0;
        for (int spring = 0; spring < 3; spring++) {
            boolean fits = true;
            for (Fact f : facts) fits &= noYard(f.yard) || wet(spring, f.day, f.yard) == f.is;
            if (fits) bits += 1 << spring;
        }
        return bits;
    }

    private int size(int s) {
        return java.lang.reflect.Array.getLength(sheets[s]);
    }

    private int item(int s, int i) {
        return java.lang.reflect.Array.getInt(sheets[s], i);
    }

    private int form(int s) {
        return sheets[s] instanceof byte[] ? 0 : sheets[s] instanceof short[] ? 1 : 2;
    }

    private void put(int s, int i, int v) {
        if (sheets[s] instanceof byte[] row) row[i] = (byte) v;
        else if (sheets[s] instanceof short[] row) row[i] = (short) v;
        else if (sheets[s] instanceof int[] row) row[i] = v;
    }

    int sheet(int s, int form, int n) {
        if (out(s, 0, 3) || out(form, 0, 2) || n > 60) return BAD;
        if (n < 0) return find(5);
        sheets[s] = form == 0 ? new byte[n] : form == 1 ? new short[n] : new int[n];
        return n;
    }

    int lose(int s) {
        if (out(s, 0, 3)) return BAD;
        if (sheets[s] == null) return find(1);
        int had = size(s);
        sheets[s] = null;
        return had;
    }

    private int trouble(int s, int form, int i) {
        return sheets[s] == null ? 1 : form(s) != form ? 3 : out(i, 0, size(s) - 1) ? 2 : 0;
    }

    int lay(int s, int form, int i, int v) {
        if (out(s, 0, 3) || out(form, 0, 2)) return BAD;
        if (trouble(s, form, i) != 0) return find(trouble(s, form, i));
        put(s, i, v);
        return 1;
    }

    int get(int s, int form, int i) {
        if (out(s, 0, 3) || out(form, 0, 2)) return Integer.MIN_VALUE;
        if (trouble(s, form, i) != 0) {
            find(trouble(s, form, i));
            return Integer.MIN_VALUE;
        }
        return item(s, i);
    }

    int copy(int s, int i, int t, int j, int n) {
        if (out(s, 0, 3) || out(t, 0, 3)) return BAD;
        if (sheets[s] == null || sheets[t] == null) return find(1);
        if (form(s) != form(t)) return find(4);
        if (i < 0 || j < 0 || n < 0 || (long) i + n > size(s) || (long) j + n > size(t)) return find(2);
        List<Integer> taken = new ArrayList<>();
        for (int k = 0; k < n; k++) taken.add(item(s, i + k));
        for (int k = 0; k < n; k++) put(t, j + k, taken.get(k));
        return 1;
    }

    int write(int spring, int s) {
        if (out(spring, 0, 2) || out(s, 0, 3)) return BAD;
        if (sheets[s] == null) return find(1);
        int many = 0;
        for (int yard = 0; yard < size(s) && !noYard(yard); yard++, many++) put(s, yard, closed(spring, yard));
        return many;
    }

    int count(int what) {
        int[] all = {figures(3).length(), figures(0).length(), figures(1).length(), figures(2).length(),
            dikes.size(), contracts.size(), facts.size(), odds[0] + odds[1] + odds[2], finding};
        return out(what, 0, 8) ? BAD : all[what];
    }

    long digest() {
        List<Long> told = new ArrayList<>();
        for (int what = 0; what < 8; what++) told.add((long) count(what));
        for (int text = 0; text < 4; text++) told.add((long) fault(text));
        for (int yard = 0; !noYard(yard); yard++) told.add((long) height(yard));
        for (int s = 0; s < 3; s++) {
            told.add((long) possession(s));
            for (int what = 0; what < 2; what++) told.add((long) water(s, 5, what));
            for (int what = 0; what < 3; what++) told.add((long) cost(s, 5, 0, 3, what));
            for (int what = 0; what < 3; what++) told.add((long) deed(s, what));
            for (int what = 0; what < 2; what++) told.add(waits(s, 4, 0, 2, what));
            told.add((long) goes(s, 4, 0, 2));
            for (int what = 0; what < 3; what++) told.add((long) keep(s, 5, 0, 4, 2, what));
            told.add((long) closed(s, 0));
        }
        for (int what = 0; what < 2; what++) told.add((long) never(what));
        for (int what = 0; what < 2; what++) told.add(gain(what));
        told.add((long) watch());
        told.add((long) fit());
        long h = 17;
        for (long v : told) h = 31 * h + v;
        return h;
    }
}
