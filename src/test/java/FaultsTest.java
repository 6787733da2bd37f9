import java.util.ArrayList;
import java.util.HashMap;
import java.util.List;
import java.util.Map;
import java.util.regex.Matcher;
import java.util.regex.Pattern;

/** Promises 3 to 5 on texts spoilt by chance, against a reader by tables of what each LINE has. */
public final class FaultsTest {
    private static final Checks t = new Checks();
    private static final Map<String, String> LINES = new HashMap<>();
    private static final Map<String, Integer> ROOM = Map.of("cave", 8, "way", 10, "voice", 3, "folk", 4, "echo", 4,
        "unsure", 4, "talk", 5);

    /** Of a LINE: a word, or words of which one, a WHOLE's bounds, + a new name, a cave: first, other, or alone. */
    static {
        LINES.put("well", "loud 0..99 errs 0..100 drought 0..100");
        LINES.put("cave", "+ mouth/deep");
        LINES.put("way", "first other long 1..20 dry/wet");
        LINES.put("voice", "+ idle/shy/bold/rover at alone");
        LINES.put("folk", "+ at alone");
        LINES.put("echo", "alone after 0..400");
        LINES.put("unsure", "first other");
        LINES.put("talk", "first other heard/lost");
    }

    /** A text's state while it is read: what is told so far. */
    private static final class Seen {
        final Map<String, String> names = new HashMap<>();
        final Map<String, Integer> lines = new HashMap<>();
        final List<String> pairs = new ArrayList<>();
        final List<String> unsure = new ArrayList<>();
        final List<String> echoes = new ArrayList<>();
        int wet = 0;
        String one;
    }

    /** The fault and its place. */
    private static int[] find(String text) {
        Matcher m = Pattern.compile("[a-z]+|[0-9]+|[^ ]", Pattern.DOTALL).matcher(text);
        Seen seen = new Seen();
        String line = null;
        int part = 0;
        while (m.find()) {
            String token = m.group();
            String[] parts = line == null ? null : LINES.get(line).split(" ");
            int fault;
            if (token.matches("[a-z]{9,}|[0-9]{4,}") || !token.matches("[a-z]+|[0-9]+|;")) {
                fault = 1;
            } else if (line == null) {
                fault = beginning(token, seen);
                line = token;
                part = 0;
            } else if (part == parts.length) {
                fault = token.equals(";") ? 0 : 1;
                line = null;
            } else {
                fault = check(line, parts[part], token, seen);
                part++;
            }
            if (fault != 0) {
                return new int[] {fault, m.start()};
            }
        }
        if (line == null || part < LINES.get(line).split(" ").length) {
            return new int[] {1, text.length()};
        }
        return seen.lines.getOrDefault("cave", 0) == 0 ? new int[] {6, text.length()} : new int[] {0, -1};
    }

    private static int beginning(String token, Seen seen) {
        if (!LINES.containsKey(token)) {
            return 1;
        }
        int before = seen.lines.merge(token, 1, Integer::sum) - 1;
        if (token.equals("well")) {
            return before > 0 ? 3 : 0;
        }
        if (!seen.lines.containsKey("well")) {
            return 6;
        }
        return before >= ROOM.get(token) ? 5 : 0;
    }

    private static int check(String line, String part, String token, Seen seen) {
        boolean isName = token.matches("[a-z]+") && !LINES.containsKey(token);
        if (part.equals("+")) {
            return !isName ? 1 : seen.names.putIfAbsent(token, line) != null ? 3 : 0;
        }
        if (part.contains("..")) {
            String[] bounds = part.split("\\.\\.");
            return !token.matches("[0-9]+") ? 1 : Integer.parseInt(token) < Integer.parseInt(bounds[0])
                || Integer.parseInt(token) > Integer.parseInt(bounds[1]) ? 4 : 0;
        }
        if (List.of("first", "other", "alone").contains(part)) {
            return !isName ? 1 : !"cave".equals(seen.names.get(token)) ? 2 : checkCave(line, part, token, seen);
        }
        if (!List.of(part.split("/")).contains(token)) {
            return 1;
        }
        return token.equals("wet") && line.equals("way") && ++seen.wet > 6 ? 5 : 0;
    }

    private static int checkCave(String line, String part, String token, Seen seen) {
        if (line.equals("echo")) {
            return seen.echoes.contains(token) || !seen.echoes.add(token) ? 3 : 0;
        }
        if (!part.equals("other")) {
            seen.one = token;
            return 0;
        }
        String pair = seen.one.compareTo(token) < 0 ? seen.one + " " + token : token + " " + seen.one;
        if (seen.one.equals(token) || line.equals("way") && seen.pairs.contains(pair)
            || line.equals("unsure") && seen.unsure.contains(pair)) {
            return 3;
        }
        if (line.equals("way")) {
            seen.pairs.add(pair);
        }
        if (line.equals("unsure")) {
            seen.unsure.add(pair);
            return seen.pairs.contains(pair) ? 0 : 7;
        }
        return 0;
    }

    private static String spoil(String text) {
        List<String> tokens = new ArrayList<>();
        Matcher m = Pattern.compile("[a-z]+|[0-9]+|.").matcher(text);
        while (m.find()) {
            tokens.add(m.group());
        }
        int at = ModelTest.draw(tokens.size());
        int other = ModelTest.draw(tokens.size());
        switch (ModelTest.draw(9)) {
            case 0 -> tokens.set(at, tokens.get(other));
            case 1 -> tokens.add(at, " " + tokens.get(other) + " ");
            case 2 -> tokens.remove(at);
            case 3 -> tokens.set(at, "" + ModelTest.draw(1200));
            case 4 -> tokens.set(at, "" + (char) ModelTest.draw(256));
            case 5 -> {
                return text.substring(0, ModelTest.draw(text.length() + 1));
            }
            case 6 -> {
                String[] lines = text.split(";");
                return text + ";" + lines[ModelTest.draw(lines.length)];
            }
            case 7 -> {
                List<String> lines = new ArrayList<>(List.of(text.split(";")));
                String moved = lines.remove(ModelTest.draw(lines.size()));
                lines.add(ModelTest.draw(lines.size() + 1), moved);
                return String.join(" ; ", lines);
            }
            default -> tokens.set(at, tokens.get(at) + "abcdefghi".substring(ModelTest.draw(9)));
        }
        return String.join("", tokens);
    }

    public static void main(String[] args) {
        int[] met = new int[8];
        for (int run = 0; run < 40000; run++) {
            String text = ModelTest.text();
            for (int n = ModelTest.draw(3); n >= 0 && !text.isEmpty(); n--) {
                text = spoil(text);
            }
            if (text.length() > 900) {
                continue;
            }
            int[] want = find(text);
            met[want[0]]++;
            WellVoice x = new WellVoice();
            int got = Checks.tell(x, text);
            t.due("fault() of " + text, x.fault(), want[0]);
            t.due("where() of " + text, x.where(), want[1]);
            t.due("well() of " + text, got > 0, want[0] == 0);
        }
        for (int fault = 0; fault < 8; fault++) {
            t.due("fault " + fault + " was met", met[fault] > 5, true);
        }
        t.finish("FaultsTest");
    }
}
