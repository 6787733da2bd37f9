import java.lang.reflect.InvocationTargetException;
import java.lang.reflect.Method;
import java.util.ArrayList;
import java.util.List;
import java.util.TreeSet;

/**
 * Every call of the face, at and beyond every edge of each of its numbers, all of them in every row: which is refused,
 * by what, and that a refused one changes nothing. Nothing but led() throws.
 */
public final class EdgesTest {
    private static final Checks t = new Checks();

    /**
     * A call and what its numbers are: cave, way, voice, folk, unsure way, image, or least..most of a number that is refused
     * by 1 (what) or by 2 (number). "any" is refused or not for reasons that other tests look at; "flag" is a boolean.
     */
    private static final String[] CALLS = {
        "cave cave what:0:4", "way way what:0:3", "voice voice what:0:2", "folk folk", "far cave cave", "next cave cave", "hearers voice",
        "heardFrom cave", "parts", "farthest cave", "neck", "after voice number:0:60", "comes voice cave", "meets voice voice",
        "silentIn voice", "settles voice", "round voice", "called voice cave", "bring voice cave", "bringAt voice cave any", "reach voice",
        "echo voice cave", "fits", "odds cave flag", "likeliest", "stone", "stoneLeaves", "judge", "nets", "netAt any", "dryBy unsure",
        "liar", "chase cave cave", "chaseBy cave cave", "answers number:0:9 flag flag flag", "rests number:0:9", "rest number:0:9",
        "within cave cave number:0:200 flag", "mean cave flag", "farBy cave cave number:0:65536",
        "open cave cave number:0:65536 number:0:60", "year", "call cave", "walk folk cave", "dig way", "flood way", "undo", "image",
        "back image"};

    private static final String ONE = "well loud 0 errs 0 drought 0;cave a mouth";
    private static final String SOME = "well loud 5 errs 20 drought 50;cave a mouth;cave b deep;cave c deep;way a b long 2 dry;way c b long 3 wet"
        + ";voice v rover at a;voice w shy at b;folk m at a;folk n at b;echo a after 4;unsure a b;unsure b c;talk a c lost";
    private static final String FULL = "well loud 99 errs 100 drought 100;cave a mouth;cave b deep;cave c deep;cave d deep;cave e deep;cave f deep"
        + ";cave g deep;cave h mouth" + Checks.ways(20, "ab bc cd de ef fg").replace("dry", "wet") + Checks.ways(20, "gh ha ac ad")
        + ";voice i rover at a;voice j bold at h;voice k shy at h;folk m at h;folk n at h;folk o at h;folk p at a"
        + ";echo a after 400;echo b after 0;echo c after 0;echo d after 0;unsure a b;unsure b c;unsure c d;unsure d e"
        + ";talk a b lost;talk a b lost;talk a b lost;talk a b lost;talk a h heard";

    public static void main(String[] args) throws ReflectiveOperationException {
        for (String text : new String[] {"", ONE, SOME, FULL}) {
            for (String call : CALLS) {
                tryCall(text, call.split(" "));
            }
        }
        feedAndWell();
        t.finish("EdgesTest");
    }

    private static WellVoice make(String text) {
        WellVoice x = new WellVoice();
        if (!text.isEmpty()) {
            x = Checks.of(text);
            x.year();
            x.image();
            x.year();
        }
        return x;
    }

    /** How many there are of what a number is, or what it may be at most; NONE if it is no number of the WELL's. */
    private static int most(WellVoice x, String kind) {
        switch (kind.split(":")[0]) {
            case "cave":
                return x.size(3) - 1;
            case "way":
                return x.size(4) - 1;
            case "voice":
                return x.size(5) - 1;
            case "folk":
                return x.size(6) - 1;
            case "unsure":
                return x.size(8) - 1;
            case "image":
                return x.size(12) - 1;
            case "what":
            case "number":
                return Integer.parseInt(kind.split(":")[2]);
            default:
                return 16;
        }
    }

    private static List<Object> values(WellVoice x, String kind) {
        if (kind.equals("flag")) {
            return List.of(false, true);
        }
        int most = most(x, kind);
        TreeSet<Integer> edges = new TreeSet<>(List.of(Integer.MIN_VALUE, Integer.MIN_VALUE + 1, -65536, -2, -1, 0, 1, 31, 32, 65537, 1 << 20,
            Integer.MAX_VALUE - 1, Integer.MAX_VALUE));
        edges.add(most - 1);
        edges.add(most);
        edges.add(most + 1);
        edges.add(most + 32);
        return new ArrayList<>(edges);
    }

    private static void tryCall(String text, String[] call) throws ReflectiveOperationException {
        Method method = null;
        for (Method m : WellVoice.class.getMethods()) {
            if (m.getName().equals(call[0]) && m.getParameterCount() == call.length - 1) {
                method = m;
            }
        }
        WellVoice x = make(text);
        List<List<Object>> rows = new ArrayList<>();
        int all = 1;
        for (int i = 1; i < call.length; i++) {
            rows.add(values(x, call[i]));
            all *= rows.get(i - 1).size();
        }
        String state = stateOf(x);
        for (int n = 0; n < all; n++) {
            Object[] args = new Object[rows.size()];
            for (int i = 0, rest = n; i < args.length; i++) {
                args[i] = rows.get(i).get(rest % rows.get(i).size());
                rest /= rows.get(i).size();
            }
            boolean refused = tryOnce(x, method, call, args);
            boolean same = stateOf(x).equals(state);
            if (refused) {
                t.due(told(call, args) + ", refused, leaves all as it was", same, true);
            }
            if (!same) {
                x = make(text);
            }
        }
    }

    private static String told(String[] call, Object[] args) {
        return call[0] + java.util.Arrays.toString(args);
    }

    /** Whether it was refused. */
    private static boolean tryOnce(WellVoice x, Method method, String[] call, Object[] args) throws ReflectiveOperationException {
        int want = wanted(x, call, args);
        long got;
        try {
            Object answer = method.invoke(x, args);
            got = answer instanceof Boolean done ? (done ? 0 : -1) : ((Number) answer).longValue();
        } catch (InvocationTargetException e) {
            t.due(told(call, args) + " throws " + e.getCause(), true, false);
            return true;
        }
        if (want >= 0) {
            t.due("trouble() of " + told(call, args), x.trouble(), want);
        }
        boolean refused = got == (call[0].equals("answers") ? -100 : -1);
        t.due(told(call, args) + " answers that it is refused", refused, x.trouble() != 0);
        return refused;
    }

    /** The TROUBLE that is due; -1 if that is for other tests. */
    private static int wanted(WellVoice x, String[] call, Object[] args) {
        boolean well = x.size(3) > 0;
        boolean number = false;
        boolean free = !well;
        for (int i = 1; i < call.length; i++) {
            free |= call[i].equals("any");
            if (args[i - 1] instanceof Integer value && (value < 0 || value > most(x, call[i]))) {
                if (call[i].startsWith("number")) {
                    number = true;
                } else if (!call[i].equals("any")) {
                    return 1;
                }
            }
        }
        if (call[0].equals("undo")) {
            return x.size(11) == 0 ? 6 : 0;
        }
        if (!well || call[0].equals("meets") && args[0].equals(args[1])) {
            return 1;
        }
        if (number) {
            return 2;
        }
        return free || call[0].equals("walk") || call[0].equals("dig") || call[0].equals("flood") ? -1 : 0;
    }

    /** All that acts change, as the calls tell it. */
    private static String stateOf(WellVoice x) {
        StringBuilder state = new StringBuilder();
        for (int what = 0; what <= 13; what++) {
            state.append(x.size(what)).append(' ');
        }
        for (int k = 0; k < x.size(4); k++) {
            state.append(x.way(k, 3));
        }
        for (int v = 0; v < x.size(5); v++) {
            state.append(' ').append(x.voice(v, 1)).append(x.voice(v, 2));
        }
        for (int f = 0; f < x.size(6); f++) {
            state.append(' ').append(x.folk(f));
        }
        return state.toString();
    }

    private static void feedAndWell() {
        for (int bytes = 0; bytes <= 900; bytes += 20) {
            WellVoice x = new WellVoice();
            for (int i = 0; i < bytes; i += 20) {
                x.feed(Integer.MIN_VALUE, Integer.MAX_VALUE, -1, 0, 1);
            }
            for (int n : new int[] {Integer.MIN_VALUE, -1, bytes + 1, bytes + 20, Integer.MAX_VALUE}) {
                t.refused(x, "well(" + n + ") of " + bytes, x.well(n), -1, 2);
            }
            t.refused(x, "well(" + bytes + ")", x.well(bytes), -1, 4);
            t.due("where()", x.where(), 0);
        }
    }
}
