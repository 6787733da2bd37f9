import java.util.ArrayList;
import java.util.List;
import java.util.Map;

/** All promises from 6 on, on wells by chance and with numbers by chance, against the Model. */
public final class ModelTest {
    private static final Checks t = new Checks();
    private static long state = 2026;
    private static WellVoice x;
    private static Model m;
    private static String told;

    static int draw(int bound) {
        state = state * 6364136223846793005L + 1442695040888963407L;
        return (int) ((state >>> 33) % bound);
    }

    /** Mostly a number that there is; at times one just outside, or far outside. */
    private static int number(int size) {
        int kind = draw(24);
        if (kind == 0) {
            return -1;
        }
        if (kind == 1) {
            return size;
        }
        if (kind == 2) {
            return draw(2) == 0 ? Integer.MIN_VALUE : Integer.MAX_VALUE;
        }
        return size == 0 ? draw(3) : draw(size);
    }

    static String text() {
        int caves = 1 + draw(8);
        StringBuilder b = new StringBuilder("well loud " + draw(draw(2) == 0 ? 12 : 100) + " errs "
            + (draw(3) == 0 ? draw(2) * 100 : draw(101)) + " drought " + (draw(4) == 0 ? draw(2) * 100 : draw(101)));
        for (int c = 0; c < caves; c++) {
            b.append(";cave ").append(name(c)).append(draw(2) == 0 ? " mouth" : " deep");
        }
        List<String> pairs = new ArrayList<>();
        int wet = 0;
        int longest = draw(2) == 0 ? 3 : 20;
        for (int i = 0; i < 4 + draw(12) && pairs.size() < 10 && caves > 1; i++) {
            int one = draw(caves);
            int other = draw(caves);
            String pair = name(one) + " " + name(other);
            if (one == other || pairs.contains(pair) || pairs.contains(name(other) + " " + name(one))) {
                continue;
            }
            boolean isWet = draw(3) == 0 && wet < 6;
            wet += isWet ? 1 : 0;
            pairs.add(pair);
            b.append(";way ").append(pair).append(" long ").append(1 + draw(longest)).append(isWet ? " wet" : " dry");
        }
        String[] kinds = {"idle", "shy", "bold", "rover", "rover"};
        for (int v = draw(4); v > 0; v--) {
            b.append(";voice v").append("abc".charAt(v - 1)).append(' ').append(kinds[draw(5)]).append(" at ").append(name(draw(caves)));
        }
        for (int f = draw(5); f > 0; f--) {
            b.append(";folk f").append("abcd".charAt(f - 1)).append(" at ").append(name(draw(caves)));
        }
        int from = draw(caves);
        for (int e = Math.min(caves - from, draw(5)); e > 0; e--) {
            b.append(";echo ").append(name(from + e - 1)).append(" after ").append(draw(3) == 0 ? draw(401) : 2 * draw(8));
        }
        for (int u = Math.min(pairs.size(), draw(5)); u > 0; u--) {
            b.append(";unsure ").append(pairs.get(u - 1));
        }
        for (int k = caves < 2 ? 0 : draw(6); k > 0; k--) {
            int one = draw(caves);
            b.append(";talk ").append(name(one)).append(' ').append(name((one + 1 + draw(caves - 1)) % caves)).append(draw(2) == 0 ? " heard" : " lost");
        }
        return b.toString();
    }

    private static String name(int c) {
        return "grottos".substring(0, 1 + c % 7) + (char) ('a' + c);
    }

    private static void due(String call, long got, long want, int trouble) {
        t.due(call + " in " + told + " behind " + x.size(10) + " years", got, want);
        t.due("trouble() behind " + call + " in " + told, x.trouble(), trouble);
    }

    private static boolean isCave(int c) {
        return c >= 0 && c < m.caves.size();
    }

    private static boolean isVoice(int v) {
        return v >= 0 && v < m.kinds.size();
    }

    public static void main(String[] args) {
        for (int run = 0; run < 1500; run++) {
            told = text();
            if (told.length() > 900) {
                continue;
            }
            // Some objects get well behind well, with a spoilt one in between.
            x = run % 3 == 0 ? new WellVoice() : x;
            if (run % 2 == 0) {
                Checks.tell(x, told.substring(0, draw(told.length())));
            }
            t.due("well() of " + told, Checks.tell(x, told), told.split("cave").length - 1);
            m = new Model(told);
            for (int i = 0; i < 12; i++) {
                asks();
                acts();
            }
            asksOnce();
        }
        t.finish("ModelTest");
    }

    private static void asks() {
        now();
        far();
        years();
        calls();
        chase();
        droughts();
    }

    private static void now() {
        int c = number(m.caves.size());
        for (int what = -1; what <= 5; what++) {
            boolean is = isCave(c) && what >= 0 && what <= 4;
            due("cave(" + c + ", " + what + ")", x.cave(c, what), is ? caveOf(c, what) : -1, is ? 0 : 1);
        }
        int k = number(m.ways.size());
        for (int what = -1; what <= 4; what++) {
            boolean is = k >= 0 && k < m.ways.size() && what >= 0 && what <= 3;
            due("way(" + k + ", " + what + ")", x.way(k, what), is ? wayOf(k, what) : -1, is ? 0 : 1);
        }
        int v = number(m.kinds.size());
        for (int what = -1; what <= 3; what++) {
            boolean is = isVoice(v) && what >= 0 && what <= 2;
            due("voice(" + v + ", " + what + ")", x.voice(v, what), is ? voiceOf(v, what) : -1, is ? 0 : 1);
        }
        int f = number(m.now.folk.size());
        boolean is = f >= 0 && f < m.now.folk.size();
        due("folk(" + f + ")", x.folk(f), is ? m.now.folk.get(f) : -1, is ? 0 : 1);
        int[] sizes = {m.loud, m.errs, m.drought, m.caves.size(), m.ways.size(), m.kinds.size(), m.now.folk.size(),
            m.echoes.size(), m.unsure.size(), m.talks.size(), m.now.years, m.past.size(), m.images.size(), 0};
        int what = draw(14);
        t.due("size(" + what + ")", x.size(what), sizes[what]);
        int i = number(m.kinds.size());
        List<Integer> unheard = new ArrayList<>();
        for (int w = 0; w < m.kinds.size(); w++) {
            if (m.hearersAt(m.now.voices.get(w)) == 0) {
                unheard.add(w);
            }
        }
        boolean has = i >= 0 && i < unheard.size();
        t.due("led(" + i + ") throws", Checks.ledThrows(x, i), !has);
        t.due("led(" + i + ")", has ? x.led(i) : -9, has ? unheard.get(i) : -9);
    }

    private static int caveOf(int c, int what) {
        int bits = 0;
        switch (what) {
            case 0:
                return m.mouths.get(c) ? 1 : 0;
            case 1:
                for (int n : m.neighbours(m.now.wet, c)) {
                    bits |= 1 << n;
                }
                return bits;
            case 2:
            case 3:
                List<Integer> row = what == 2 ? m.now.voices : m.now.folk;
                for (int i = 0; i < row.size(); i++) {
                    bits |= (row.get(i) == c ? 1 : 0) << i;
                }
                return bits;
            default:
                return (int) m.ways.stream().filter(w -> w[0] == c || w[1] == c).count();
        }
    }

    private static int wayOf(int k, int what) {
        int[] w = m.ways.get(k);
        return switch (what) {
            case 0 -> Math.min(w[0], w[1]);
            case 1 -> Math.max(w[0], w[1]);
            case 2 -> w[2];
            default -> m.now.wet.get(k) ? 1 : 0;
        };
    }

    private static int voiceOf(int v, int what) {
        return switch (what) {
            case 0 -> List.of("idle", "shy", "bold", "rover").indexOf(m.kinds.get(v));
            case 1 -> m.now.voices.get(v);
            default -> m.now.from.get(v);
        };
    }

    private static void far() {
        int c = number(m.caves.size());
        int to = number(m.caves.size());
        boolean two = isCave(c) && isCave(to);
        String pair = "(" + c + ", " + to + ")";
        due("far" + pair, x.far(c, to), two ? Model.orNo(m.farNow(c, to)) : -1, two ? 0 : 1);
        due("next" + pair, x.next(c, to), two ? m.next(c, to) : -1, two ? 0 : 1);
        int v = number(m.kinds.size());
        boolean is = isVoice(v);
        due("hearers(" + v + ")", x.hearers(v), is ? m.hearersAt(m.now.voices.get(v)) : -1, is ? 0 : 1);
        due("heardFrom(" + c + ")", x.heardFrom(c), isCave(c) ? m.heardFrom(c) : -1, isCave(c) ? 0 : 1);
        due("farthest(" + c + ")", x.farthest(c), isCave(c) ? m.farthest(c) : -1, isCave(c) ? 0 : 1);
        due("parts()", x.parts(), m.parts(), 0);
        due("neck()", x.neck(), m.neck(), 0);
        boolean both = is && isCave(c);
        long echo = both ? Model.orNo(m.farNow(c, m.now.voices.get(v))) : -1;
        due("echo(" + v + ", " + c + ")", x.echo(v, c), echo > 0 ? 2 * echo : echo, both ? 0 : 1);
    }

    private static void years() {
        int v = number(m.kinds.size());
        int w = number(m.kinds.size());
        int c = number(m.caves.size());
        int n = number(61);
        boolean is = isVoice(v);
        boolean years = n >= 0 && n <= 60;
        due("after(" + v + ", " + n + ")", x.after(v, n), is && years ? m.trail(v, n).get(n) : -1, !is ? 1 : years ? 0 : 2);
        boolean both = is && isCave(c);
        int comes = both ? m.trail(v, 60).indexOf(c) : -1;
        due("comes(" + v + ", " + c + ")", x.comes(v, c), both && comes < 0 ? -2 : comes, both ? 0 : 1);
        boolean unlike = is && isVoice(w) && v != w;
        due("meets(" + v + ", " + w + ")", x.meets(v, w), unlike ? m.meets(v, w) : -1, unlike ? 0 : 1);
        due("silentIn(" + v + ")", x.silentIn(v), is ? m.silentIn(v) : -1, is ? 0 : 1);
        int[] round = is ? m.goesRound(v) : new int[] {-1, -1};
        due("settles(" + v + ")", x.settles(v), round[0], is ? 0 : 1);
        due("round(" + v + ")", x.round(v), round[1], is ? 0 : 1);
    }

    private static void calls() {
        int v = number(m.kinds.size());
        int c = number(m.caves.size());
        boolean both = isVoice(v) && isCave(c);
        due("called(" + v + ", " + c + ")", x.called(v, c), both ? m.callStep(m.kinds.get(v), m.now.voices.get(v), c) : -1,
            both ? 0 : 1);
        Map<Integer, String> rows = isVoice(v) ? m.brought(v) : Map.of();
        String row = both ? rows.get(c) : null;
        due("bring(" + v + ", " + c + ")", x.bring(v, c), !both ? -1 : row == null ? -2 : row.length(), both ? 0 : 1);
        int i = number(row == null ? 1 : row.length());
        boolean has = row != null && i >= 0 && i < row.length();
        due("bringAt(" + v + ", " + c + ", " + i + ")", x.bringAt(v, c, i), has ? row.charAt(i) - '0' : -1, has ? 0 : 1);
        int bits = 0;
        for (int to : rows.keySet()) {
            bits |= 1 << to;
        }
        due("reach(" + v + ")", x.reach(v), isVoice(v) ? bits : -1, isVoice(v) ? 0 : 1);
    }

    private static void chase() {
        int owner = number(m.caves.size());
        int voice = number(m.caves.size());
        boolean both = isCave(owner) && isCave(voice);
        int[] want = both ? m.chase(owner, voice) : new int[] {-1, -1};
        due("chase(" + owner + ", " + voice + ")", x.chase(owner, voice), want[0], both ? 0 : 1);
        due("chaseBy(" + owner + ", " + voice + ")", x.chaseBy(owner, voice), want[1], both ? 0 : 1);
    }

    private static void droughts() {
        int c = number(m.caves.size());
        int to = number(m.caves.size());
        int much = draw(2) == 0 ? draw(12) : number(201);
        boolean both = isCave(c) && isCave(to);
        boolean so = much >= 0 && much <= 200;
        boolean lower = draw(2) == 0;
        due("within(" + c + ", " + to + ", " + much + ", " + lower + ")", x.within(c, to, much, lower),
            both && so ? m.byChance(c, to, much, lower) : -1, !both ? 1 : so ? 0 : 2);
        due("mean(" + c + ", " + lower + ")", x.mean(c, lower), isCave(c) ? m.byChance(c, 0, -1, lower) : -1, isCave(c) ? 0 : 1);
        int seed = number(65537);
        int n = number(61);
        boolean isSeed = seed >= 0 && seed <= 65536;
        due("farBy(" + c + ", " + to + ", " + seed + ")", x.farBy(c, to, seed),
            both && isSeed ? m.bySeed(c, to, seed, 1).get(0) : -1, !both ? 1 : isSeed ? 0 : 2);
        boolean numbers = isSeed && n >= 0 && n <= 60;
        long open = both && numbers ? m.bySeed(c, to, seed, n).stream().filter(s -> s >= 0).count() : -1;
        due("open(" + c + ", " + to + ", " + seed + ", " + n + ")", x.open(c, to, seed, n), open, !both ? 1 : numbers ? 0 : 2);
    }

    /** What goes by the WELL as told: asked behind all acts, which must not change it. */
    private static void asksOnce() {
        due("fits()", x.fits(), m.fits(), 0);
        for (int c = -1; c <= m.caves.size(); c++) {
            due("odds(" + c + ", false)", x.odds(c, false), isCave(c) ? m.odds(c, false) : -1, isCave(c) ? 0 : 1);
            due("odds(" + c + ", true)", x.odds(c, true), isCave(c) ? m.odds(c, true) : -1, isCave(c) ? 0 : 1);
        }
        due("likeliest()", x.likeliest(), m.likeliest(), 0);
        int[] stone = m.stone();
        due("stone()", x.stone(), stone[0], 0);
        due("stoneLeaves()", x.stoneLeaves(), stone[1], 0);
        due("judge()", x.judge(), m.judge(), 0);
        List<Integer> nets = m.nets();
        due("nets()", x.nets(), nets.size(), 0);
        for (int i = -1; i <= nets.size(); i++) {
            boolean has = i >= 0 && i < nets.size();
            due("netAt(" + i + ")", x.netAt(i), has ? nets.get(i) : -1, has ? 0 : 1);
        }
        for (int k = -1; k <= m.unsure.size(); k++) {
            boolean has = k >= 0 && k < m.unsure.size();
            due("dryBy(" + k + ")", x.dryBy(k), has ? m.dryBy(k) : -1, has ? 0 : 1);
        }
        due("liar()", x.liar(), m.liarBy(0), 0);
    }

    private static void acts() {
        for (int n = draw(3); n >= 0; n--) {
            act(draw(9));
        }
        if (draw(10) == 0) {
            for (int i = 0; i < 18; i++) {
                act(draw(2));
            }
        }
    }

    private static void act(int kind) {
        switch (kind) {
            case 0 -> due("year()", x.year(), m.year(), 0);
            case 1 -> {
                int c = number(m.caves.size());
                due("call(" + c + ")", x.call(c), isCave(c) ? m.call(c) : -1, isCave(c) ? 0 : 1);
            }
            case 2, 3 -> walk();
            case 4 -> change(true);
            case 5 -> change(false);
            case 6 -> {
                boolean can = !m.past.isEmpty();
                due("undo()", x.undo() ? 1 : 0, can ? 1 : 0, can ? 0 : 6);
                m.now = can ? m.past.removeLast() : m.now;
            }
            case 7 -> {
                boolean can = m.images.size() < 3;
                due("image()", x.image(), can ? m.images.size() : -1, can ? 0 : 3);
                if (can) {
                    m.images.add(m.now.copy());
                }
            }
            default -> {
                int i = number(m.images.size());
                boolean can = i >= 0 && i < m.images.size();
                due("back(" + i + ")", x.back(i) ? 1 : 0, can ? 1 : 0, can ? 0 : 1);
                if (can) {
                    m.now = m.images.get(i).copy();
                    m.past.clear();
                }
            }
        }
    }

    private static void walk() {
        int f = number(m.now.folk.size());
        int c = number(m.caves.size());
        boolean is = f >= 0 && f < m.now.folk.size() && isCave(c);
        boolean can = is && m.neighbours(m.now.wet, m.now.folk.get(f)).contains(c);
        due("walk(" + f + ", " + c + ")", x.walk(f, c) ? 1 : 0, can ? 1 : 0, !is ? 1 : can ? 0 : 5);
        if (can) {
            m.keep();
            m.now.folk.set(f, c);
        }
    }

    private static void change(boolean dig) {
        int k = number(m.ways.size());
        boolean is = k >= 0 && k < m.ways.size();
        boolean so = is && m.now.wet.get(k) == dig;
        boolean full = !dig && m.now.wet.stream().filter(w -> w).count() >= 6;
        boolean can = so && !full;
        due((dig ? "dig(" : "flood(") + k + ")", (dig ? x.dig(k) : x.flood(k)) ? 1 : 0, can ? 1 : 0,
            !is ? 1 : !so ? 5 : full ? 3 : 0);
        if (can) {
            m.keep();
            m.now.wet.set(k, !dig);
        }
    }
}
