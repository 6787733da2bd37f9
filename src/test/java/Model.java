import java.math.BigInteger;
import java.util.ArrayDeque;
import java.util.ArrayList;
import java.util.HashMap;
import java.util.LinkedHashMap;
import java.util.List;
import java.util.Map;
import java.util.TreeMap;

/**
 * The document once more, by plain searches over texts, maps and lists: slow, and written apart
 * from the class, so that the two are unlikely to be wrong alike. It takes texts without FAULTS.
 */
final class Model {
    static final int NEVER = Integer.MAX_VALUE;

    int loud, errs, drought;
    final List<String> caves = new ArrayList<>();
    final List<Boolean> mouths = new ArrayList<>();
    final List<int[]> ways = new ArrayList<>();
    final List<String> kinds = new ArrayList<>();
    final List<int[]> echoes = new ArrayList<>();
    final List<Integer> unsure = new ArrayList<>();
    final List<int[]> talks = new ArrayList<>();
    World first = new World();
    World now;
    final ArrayDeque<World> past = new ArrayDeque<>();
    final List<World> images = new ArrayList<>();

    /** What acts change. */
    static final class World {
        List<Boolean> wet = new ArrayList<>();
        List<Integer> voices = new ArrayList<>();
        List<Integer> from = new ArrayList<>();
        List<Integer> folk = new ArrayList<>();
        int years = 0;

        World copy() {
            World w = new World();
            w.wet.addAll(wet);
            w.voices.addAll(voices);
            w.from.addAll(from);
            w.folk.addAll(folk);
            w.years = years;
            return w;
        }
    }

    Model(String text) {
        for (String line : text.split(";")) {
            String[] w = line.trim().split(" +");
            switch (w[0]) {
                case "well" -> {
                    loud = Integer.parseInt(w[2]);
                    errs = Integer.parseInt(w[4]);
                    drought = Integer.parseInt(w[6]);
                }
                case "cave" -> {
                    caves.add(w[1]);
                    mouths.add(w[2].equals("mouth"));
                }
                case "way" -> {
                    ways.add(new int[] {at(w[1]), at(w[2]), Integer.parseInt(w[4])});
                    first.wet.add(w[5].equals("wet"));
                }
                case "voice" -> {
                    kinds.add(w[2]);
                    first.voices.add(at(w[4]));
                    first.from.add(-2);
                }
                case "folk" -> first.folk.add(at(w[3]));
                case "echo" -> echoes.add(new int[] {at(w[1]), Integer.parseInt(w[3])});
                case "unsure" -> unsure.add(wayOf(at(w[1]), at(w[2])));
                default -> talks.add(new int[] {at(w[1]), at(w[2]), w[3].equals("heard") ? 1 : 0});
            }
        }
        now = first.copy();
    }

    private int at(String name) {
        return caves.indexOf(name);
    }

    private int wayOf(int a, int b) {
        for (int k = 0; k < ways.size(); k++) {
            int[] w = ways.get(k);
            if (w[0] == a && w[1] == b || w[0] == b && w[1] == a) {
                return k;
            }
        }
        return -1;
    }

    // ---- how far

    List<Integer> neighbours(List<Boolean> wet, int c) {
        List<Integer> found = new ArrayList<>();
        for (int x = 0; x < caves.size(); x++) {
            int k = wayOf(c, x);
            if (x != c && k >= 0 && !wet.get(k)) {
                found.add(x);
            }
        }
        return found;
    }

    private final Map<List<Boolean>, int[][]> spans = new HashMap<>();

    int far(List<Boolean> wet, int c, int to) {
        int[][] known = spans.computeIfAbsent(wet, this::allPaths);
        return known[c][to];
    }

    private int[][] allPaths(List<Boolean> wet) {
        int n = caves.size();
        int[][] best = new int[n][n];
        for (int c = 0; c < n; c++) {
            java.util.Arrays.fill(best[c], NEVER);
            paths(wet, c, c, 0, 1 << c, best[c]);
        }
        return best;
    }

    /** Every row of ways without a cave twice. */
    private void paths(List<Boolean> wet, int start, int c, int length, int seen, int[] best) {
        best[c] = Math.min(best[c], length);
        for (int x : neighbours(wet, c)) {
            if ((seen >> x & 1) == 0) {
                paths(wet, start, x, length + ways.get(wayOf(c, x))[2], seen | 1 << x, best);
            }
        }
    }

    int farNow(int c, int to) {
        return far(now.wet, c, to);
    }

    static int orNo(int span) {
        return span == NEVER ? -2 : span;
    }

    int next(int c, int to) {
        if (c == to) {
            return -2;
        }
        int best = NEVER;
        int step = -2;
        for (int x : neighbours(now.wet, c)) {
            int rest = farNow(x, to);
            if (rest != NEVER && ways.get(wayOf(c, x))[2] + rest < best) {
                best = ways.get(wayOf(c, x))[2] + rest;
                step = x;
            }
        }
        return step;
    }

    int hearersAt(int c) {
        int bits = 0;
        for (int f = 0; f < now.folk.size(); f++) {
            bits |= (farNow(now.folk.get(f), c) <= loud ? 1 : 0) << f;
        }
        return bits;
    }

    int heardFrom(int c) {
        int bits = 0;
        for (int x = 0; x < caves.size(); x++) {
            bits |= (farNow(x, c) <= loud ? 1 : 0) << x;
        }
        return bits;
    }

    int parts() {
        int found = 0;
        for (int c = 0; c < caves.size(); c++) {
            boolean leads = true;
            for (int x = 0; x < c; x++) {
                leads &= farNow(x, c) == NEVER;
            }
            found += leads ? 1 : 0;
        }
        return found;
    }

    int farthest(int c) {
        int most = 0;
        for (int x = 0; x < caves.size(); x++) {
            most = Math.max(most, farNow(c, x) == NEVER ? 0 : farNow(c, x));
        }
        for (int x = 0; x < caves.size(); x++) {
            if (farNow(c, x) == most) {
                return x;
            }
        }
        return -99;
    }

    int neck() {
        int best = -2;
        int most = 0;
        for (int gone = 0; gone < caves.size(); gone++) {
            List<Boolean> wet = new ArrayList<>(now.wet);
            for (int k = 0; k < ways.size(); k++) {
                if (ways.get(k)[0] == gone || ways.get(k)[1] == gone) {
                    wet.set(k, true);
                }
            }
            int lost = 0;
            for (int a = 0; a < caves.size(); a++) {
                for (int b = a + 1; b < caves.size(); b++) {
                    boolean others = a != gone && b != gone;
                    lost += others && farNow(a, b) != NEVER && far(wet, a, b) == NEVER ? 1 : 0;
                }
            }
            if (lost > most) {
                most = lost;
                best = gone;
            }
        }
        return best;
    }

    // ---- years and calls

    private int nearestFolk(int c) {
        int nearest = NEVER;
        for (int f : now.folk) {
            nearest = Math.min(nearest, farNow(c, f));
        }
        return nearest;
    }

    private int yearStep(String kind, int c, int from) {
        List<Integer> near = neighbours(now.wet, c);
        if (kind.equals("rover")) {
            for (int x : near) {
                if (x != from) {
                    return x;
                }
            }
            return near.isEmpty() ? c : from;
        }
        List<Integer> choice = new ArrayList<>(List.of(c));
        choice.addAll(near);
        int best = c;
        for (int x : choice) {
            if (kind.equals("shy") && nearestFolk(x) > nearestFolk(best)
                || kind.equals("bold") && nearestFolk(x) < nearestFolk(best)) {
                best = x;
            }
        }
        return best;
    }

    List<Integer> trail(int v, int years) {
        List<Integer> row = new ArrayList<>();
        int c = now.voices.get(v);
        int from = now.from.get(v);
        row.add(c);
        for (int n = 0; n < years; n++) {
            int to = yearStep(kinds.get(v), c, from);
            from = to == c ? from : c;
            c = to;
            row.add(c);
        }
        return row;
    }

    int silentIn(int v) {
        List<Integer> row = trail(v, 60);
        for (int n = 0; n <= 60; n++) {
            if (hearersAt(row.get(n)) == 0) {
                return n;
            }
        }
        return -2;
    }

    int meets(int v, int w) {
        List<Integer> one = trail(v, 60);
        List<Integer> other = trail(w, 60);
        for (int n = 0; n <= 60; n++) {
            if (one.get(n).equals(other.get(n))) {
                return n;
            }
        }
        return -2;
    }

    /** From which year on, and behind how many years, the caves come again: the first such. */
    int[] goesRound(int v) {
        List<Integer> row = trail(v, 400);
        for (int start = 0; start < 100; start++) {
            for (int length = 1; length < 100; length++) {
                if (row.subList(start, 300).equals(row.subList(start + length, 300 + length))) {
                    return new int[] {start, length};
                }
            }
        }
        return new int[] {-99, -99};
    }

    int callStep(String kind, int c, int at) {
        return kind.equals("idle") || c == at || farNow(c, at) > loud ? c : next(c, at);
    }

    /** The caves to which a voice can be brought, each with the first of the shortest rows of calls. */
    Map<Integer, String> brought(int v) {
        Map<Integer, String> rows = new TreeMap<>();
        Map<Integer, String> level = new LinkedHashMap<>();
        level.put(now.voices.get(v), "");
        while (!level.isEmpty()) {
            rows.putAll(level);
            Map<Integer, String> more = new LinkedHashMap<>();
            for (Map.Entry<Integer, String> e : level.entrySet()) {
                for (int m = 0; m < caves.size(); m++) {
                    if (mouths.get(m)) {
                        int to = callStep(kinds.get(v), e.getKey(), m);
                        String row = e.getValue() + m;
                        if (!rows.containsKey(to)) {
                            more.merge(to, row, (a, b) -> a.compareTo(b) <= 0 ? a : b);
                        }
                    }
                }
            }
            level = more;
        }
        return rows;
    }

    // ---- echoes

    int echoAtFirst(int c, int voice) {
        int span = far(first.wet, c, voice);
        return span == NEVER ? -2 : 2 * span;
    }

    BigInteger weight(int c) {
        BigInteger w = BigInteger.ONE;
        for (int[] e : echoes) {
            w = w.multiply(BigInteger.valueOf(echoAtFirst(e[0], c) == e[1] ? 100 - errs : errs));
        }
        return w;
    }

    int fits() {
        int bits = 0;
        for (int c = 0; c < caves.size(); c++) {
            bits |= weight(c).signum() << c;
        }
        return bits;
    }

    static long inLowest(BigInteger upper, BigInteger lower, boolean wantsLower) {
        if (upper.signum() == 0) {
            return wantsLower ? 1 : 0;
        }
        BigInteger g = upper.gcd(lower);
        return (wantsLower ? lower : upper).divide(g).longValueExact();
    }

    long odds(int c, boolean lower) {
        BigInteger sum = BigInteger.ZERO;
        for (int x = 0; x < caves.size(); x++) {
            sum = sum.add(weight(x));
        }
        return inLowest(weight(c), sum, lower);
    }

    int likeliest() {
        int best = -2;
        for (int c = 0; c < caves.size(); c++) {
            if (weight(c).signum() > 0 && (best < 0 || weight(c).compareTo(weight(best)) > 0)) {
                best = c;
            }
        }
        return best;
    }

    /** The stone and how many it leaves. */
    int[] stone() {
        int[] best = {-2, -2};
        for (int s = 0; s < caves.size(); s++) {
            Map<Integer, Integer> left = new HashMap<>();
            for (int c = 0; c < caves.size(); c++) {
                if ((fits() >> c & 1) == 1) {
                    left.merge(echoAtFirst(s, c), 1, Integer::sum);
                }
            }
            int most = left.values().stream().mapToInt(i -> i).max().orElse(-2);
            if (most > 0 && (best[0] < 0 || most < best[1])) {
                best = new int[] {s, most};
            }
        }
        return best;
    }

    int judge() {
        for (int i = 0; i < echoes.size() && !kinds.isEmpty(); i++) {
            if (echoAtFirst(echoes.get(i)[0], first.voices.get(0)) != echoes.get(i)[1]) {
                return i;
            }
        }
        return -2;
    }

    // ---- unsure ways

    private List<Boolean> otherwise(int set) {
        List<Boolean> wet = new ArrayList<>(first.wet);
        for (int i = 0; i < unsure.size(); i++) {
            if ((set >> i & 1) == 1) {
                wet.set(unsure.get(i), !wet.get(unsure.get(i)));
            }
        }
        return wet;
    }

    int liarBy(int set) {
        for (int i = 0; i < talks.size(); i++) {
            int[] t = talks.get(i);
            if ((far(otherwise(set), t[0], t[1]) <= loud ? 1 : 0) != t[2]) {
                return i;
            }
        }
        return -2;
    }

    List<Integer> nets() {
        List<Integer> sets = new ArrayList<>();
        for (int set = 0; set < 1 << unsure.size(); set++) {
            if (liarBy(set) == -2) {
                sets.add(set);
            }
        }
        return sets;
    }

    int dryBy(int k) {
        return (int) nets().stream().filter(set -> !otherwise(set).get(unsure.get(k))).count();
    }

    // ---- chase

    private final Map<String, Boolean> hunts = new HashMap<>();

    private boolean hasIt(int owner, int voice, int goings) {
        if (owner == voice) {
            return true;
        }
        if (goings == 0) {
            return false;
        }
        String key = owner + " " + voice + " " + goings;
        Boolean known = hunts.get(key);
        if (known != null) {
            return known;
        }
        boolean has = false;
        for (int to : around(owner)) {
            has |= hasItBehind(to, voice, goings - 1);
        }
        hunts.put(key, has);
        return has;
    }

    private boolean hasItBehind(int owner, int voice, int goings) {
        if (owner == voice) {
            return true;
        }
        boolean all = true;
        for (int to : around(voice)) {
            all &= hasIt(owner, to, goings);
        }
        return all;
    }

    private List<Integer> around(int c) {
        List<Integer> found = new ArrayList<>(List.of(c));
        found.addAll(neighbours(now.wet, c));
        return found;
    }

    /** Goings and the first of them. */
    int[] chase(int owner, int voice) {
        hunts.clear();
        for (int goings = 0; goings <= 24; goings++) {
            if (hasIt(owner, voice, goings)) {
                for (int to : around(owner)) {
                    if (goings > 0 && hasItBehind(to, voice, goings - 1)) {
                        return new int[] {goings, to};
                    }
                }
                return new int[] {goings, -2};
            }
        }
        return new int[] {-2, -2};
    }

    // ---- droughts

    /** Sums over all droughts; much below 0: caves to which there are dry ways. */
    long byChance(int c, int to, int much, boolean lower) {
        BigInteger[] sums = {BigInteger.ZERO, BigInteger.ZERO};
        dry(0, new ArrayList<>(now.wet), BigInteger.ONE, sums, new int[] {c, to, much});
        return inLowest(sums[0], sums[1], lower);
    }

    private void dry(int k, List<Boolean> wet, BigInteger chance, BigInteger[] sums, int[] asked) {
        if (k == ways.size()) {
            int count = 0;
            for (int x = 0; x < caves.size(); x++) {
                int span = far(List.copyOf(wet), asked[0], x);
                count += asked[2] < 0 ? (span == NEVER ? 0 : 1) : (x == asked[1] && span <= asked[2] ? 1 : 0);
            }
            sums[0] = sums[0].add(chance.multiply(BigInteger.valueOf(count)));
            sums[1] = sums[1].add(chance);
        } else if (!now.wet.get(k)) {
            dry(k + 1, wet, chance, sums, asked);
        } else {
            dry(k + 1, wet, chance.multiply(BigInteger.valueOf(100 - drought)), sums, asked);
            wet.set(k, false);
            dry(k + 1, wet, chance.multiply(BigInteger.valueOf(drought)), sums, asked);
            wet.set(k, true);
        }
    }

    /** FAR in each of n droughts by a seed. */
    List<Integer> bySeed(int c, int to, long seed, int n) {
        List<Integer> found = new ArrayList<>();
        for (int i = 0; i < n; i++) {
            List<Boolean> wet = new ArrayList<>(now.wet);
            for (int k = 0; k < ways.size(); k++) {
                if (now.wet.get(k)) {
                    seed = (75 * seed + 74) % 65537;
                    wet.set(k, seed % 100 >= drought);
                }
            }
            found.add(orNo(far(wet, c, to)));
        }
        return found;
    }

    // ---- acts

    void keep() {
        past.addLast(now.copy());
        if (past.size() > 16) {
            past.removeFirst();
        }
    }

    private int go(int v, int to) {
        if (now.voices.get(v) == to) {
            return 0;
        }
        now.from.set(v, now.voices.get(v));
        now.voices.set(v, to);
        return 1 << v;
    }

    int year() {
        keep();
        int bits = 0;
        for (int v = 0; v < kinds.size(); v++) {
            bits |= go(v, yearStep(kinds.get(v), now.voices.get(v), now.from.get(v)));
        }
        now.years++;
        return bits;
    }

    int call(int c) {
        keep();
        int bits = 0;
        for (int v = 0; v < kinds.size(); v++) {
            bits |= go(v, callStep(kinds.get(v), now.voices.get(v), c));
        }
        return bits;
    }
}
