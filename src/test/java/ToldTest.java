import java.lang.reflect.Constructor;
import java.lang.reflect.Field;
import java.lang.reflect.Method;
import java.lang.reflect.Modifier;
import java.util.TreeSet;

/** Promises 55 to 57, and the public face: what it has, and that it has no more. */
public final class ToldTest {
    private static final Checks t = new Checks();
    private static final String TEXT = "well loud 3 errs 4 drought 5;cave a mouth;cave b deep;cave c deep"
        + ";way a b long 2 dry;way b c long 2 wet;voice v idle at a;voice w rover at c;voice x idle at c;folk f at b"
        + ";echo a after 3;unsure a b;talk a b heard;talk a c lost";
    private static final String FACE = "after(int,int) answers(int,boolean,boolean,boolean) back(int) bring(int,int)"
        + " bringAt(int,int,int) call(int) called(int,int) cave(int,int) chase(int,int) chaseBy(int,int) comes(int,int)"
        + " dig(int) dryBy(int) echo(int,int) far(int,int) farBy(int,int,int) farthest(int) fault()"
        + " feed(int,int,int,int,int) fits() flood(int) folk(int) heardFrom(int) hearers(int) image() judge() led(int)"
        + " liar() likeliest() mean(int,boolean) meets(int,int) neck() netAt(int) nets() next(int,int)"
        + " odds(int,boolean) open(int,int,int,int) parts() reach(int) rest(int) rests(int) round(int) settles(int)"
        + " silentIn(int) size(int) stone() stoneLeaves() trouble() undo() voice(int,int) walk(int,int) way(int,int)"
        + " well(int) where() within(int,int,int,boolean) year()";

    public static void main(String[] args) {
        led();
        size();
        trouble();
        face();
        t.finish("ToldTest");
    }

    private static void led() {
        WellVoice x = Checks.of(TEXT);
        t.due("led(0)", x.led(0), 1);
        t.due("led(1)", x.led(1), 2);
        t.due("led(2) throws", Checks.ledThrows(x, 2), true);
        t.due("led(-1) throws", Checks.ledThrows(x, -1), true);
        t.refused(x, "cave(9, 9)", x.cave(9, 9), -1, 1);
        t.due("led(9) throws", Checks.ledThrows(x, 9), true);
        t.due("trouble(), led has no number", x.trouble(), 1);
        x.dig(1);
        t.due("led(0) throws, all are heard", Checks.ledThrows(x, 0), true);
        x.flood(0);
        t.due("led(0) NOW", x.led(0), 0);
        t.due("led(0) throws without a WELL", Checks.ledThrows(new WellVoice(), 0), true);
    }

    private static void size() {
        WellVoice x = Checks.of(TEXT);
        x.year();
        x.call(0);
        x.image();
        x.feed(0, 0, 0, 0, 0);
        int[] want = {3, 4, 5, 3, 2, 3, 1, 1, 1, 2, 1, 2, 1, 20};
        for (int what = 0; what < want.length; what++) {
            t.due("size(" + what + ")", x.size(what), want[what]);
        }
        t.due("size(14)", x.size(14), -1);
        t.due("size(-1)", x.size(-1), -1);
        t.due("size(MIN_VALUE)", x.size(Integer.MIN_VALUE), -1);
        t.due("size(MAX_VALUE)", x.size(Integer.MAX_VALUE), -1);
        t.due("trouble(), size has no number", x.trouble(), 0);
    }

    private static void trouble() {
        WellVoice x = Checks.of(TEXT);
        t.refused(x, "after(0, 61)", x.after(0, 61), -1, 2);
        t.due("size(99)", x.size(99), -1);
        t.due("fault()", x.fault(), 0);
        t.due("where()", x.where(), -1);
        t.due("feed()", x.feed(0, 0, 0, 0, 0), 20);
        t.due("trouble() stays behind calls without a number", x.trouble(), 2);
        t.due("trouble() stays behind itself", x.trouble(), 2);
        t.refused(x, "dig(0)", x.dig(0), 5);
        t.allowed(x, "dig(1)", x.dig(1));
    }

    private static void face() {
        t.due("the class is final", Modifier.isFinal(WellVoice.class.getModifiers()), true);
        TreeSet<String> open = new TreeSet<>();
        for (Method m : WellVoice.class.getDeclaredMethods()) {
            if (Modifier.isPrivate(m.getModifiers())) {
                continue;
            }
            t.due(m + " is public", Modifier.isPublic(m.getModifiers()), true);
            StringBuilder told = new StringBuilder(m.getName()).append('(');
            for (Class<?> type : m.getParameterTypes()) {
                told.append(told.charAt(told.length() - 1) == '(' ? "" : ",").append(type.getName());
            }
            open.add(told.append(')').toString());
        }
        TreeSet<String> want = new TreeSet<>(java.util.List.of(FACE.split(" ")));
        t.due("the face is " + open, open.equals(want), true);
        for (Field f : WellVoice.class.getDeclaredFields()) {
            boolean isPrivate = Modifier.isPrivate(f.getModifiers());
            t.due(f + " is private", isPrivate, !f.getName().equals("NONE"));
            boolean changing = Modifier.isStatic(f.getModifiers()) && !Modifier.isFinal(f.getModifiers());
            t.due(f + " is changing static state", changing, false);
        }
        for (Constructor<?> c : WellVoice.class.getDeclaredConstructors()) {
            t.due(c + " has no parameters", c.getParameterCount(), 0);
        }
        t.due("classes", WellVoice.class.getDeclaredClasses().length <= 12, true);
    }
}
