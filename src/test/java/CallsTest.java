/** Promises 23 to 26: calls at mouths that bring a voice somewhere. */
public final class CallsTest {
    private static final Checks t = new Checks();

    /** A star: c in the middle, mouths a and e, the deep caves b and d; f and g apart. */
    private static final String STAR = "well loud 9 errs 0 drought 0;cave a mouth;cave b deep;cave c deep"
        + ";cave d deep;cave e mouth;cave f deep;cave g mouth;way a c long 3 dry;way b c long 4 dry"
        + ";way c d long 2 dry;way d e long 3 dry;way f g long 20 dry";

    public static void main(String[] args) {
        called();
        bring();
        firstRow();
        reach();
        t.finish("CallsTest");
    }

    private static void called() {
        WellVoice x = Checks.of(STAR + ";voice v shy at b;voice w idle at c;voice u bold at f");
        t.allowed(x, "called(0, 0)", x.called(0, 0), 2);
        t.allowed(x, "called(0, 4), no farther than loud", x.called(0, 4), 2);
        t.allowed(x, "called(0, 1), it is there", x.called(0, 1), 1);
        t.allowed(x, "called(0, 6), no dry ways", x.called(0, 6), 1);
        t.allowed(x, "called(1, 0), idle", x.called(1, 0), 2);
        t.allowed(x, "called(2, 6), too far", x.called(2, 6), 5);
        t.allowed(x, "voice(0, 1), it did not go", x.voice(0, 1), 1);
        t.refused(x, "called(3, 0)", x.called(3, 0), -1, 1);
        t.refused(x, "called(-1, 0)", x.called(-1, 0), -1, 1);
        t.refused(x, "called(0, 7)", x.called(0, 7), -1, 1);
        t.refused(x, "called(0, -1)", x.called(0, -1), -1, 1);
        WellVoice y = Checks.of(STAR.replace("loud 9", "loud 8") + ";voice v shy at b");
        t.allowed(y, "called(0, 4), farther than loud", y.called(0, 4), 1);
        WellVoice like = Checks.of("well loud 9 errs 0 drought 0;cave a mouth;cave b deep;cave c deep;cave d deep"
            + ";way a c long 1 dry;way a b long 2 dry;way c d long 2 dry;way b d long 1 dry;voice v rover at d");
        t.allowed(like, "called(0, 0), the first of like ones", like.called(0, 0), 1);
    }

    private static void bring() {
        WellVoice x = Checks.of(STAR + ";voice v shy at b;voice w idle at c;voice u bold at f");
        t.allowed(x, "bring(0, 1), it is there", x.bring(0, 1), 0);
        t.refused(x, "bringAt(0, 1, 0)", x.bringAt(0, 1, 0), -1, 1);
        t.allowed(x, "bring(0, 2)", x.bring(0, 2), 1);
        t.allowed(x, "bring(0, 4)", x.bring(0, 4), 3);
        t.allowed(x, "bring(0, 5)", x.bring(0, 5), -2);
        t.refused(x, "bringAt(0, 5, 0), it can't be", x.bringAt(0, 5, 0), -1, 1);
        t.allowed(x, "bring(1, 2), idle", x.bring(1, 2), 0);
        t.allowed(x, "bring(1, 0), idle", x.bring(1, 0), -2);
        t.allowed(x, "bring(2, 6), too far", x.bring(2, 6), -2);
        t.refused(x, "bring(3, 0)", x.bring(3, 0), -1, 1);
        t.refused(x, "bring(-1, 0)", x.bring(-1, 0), -1, 1);
        t.refused(x, "bring(0, 7)", x.bring(0, 7), -1, 1);
        t.refused(x, "bring(0, -1)", x.bring(0, -1), -1, 1);
        t.refused(x, "bringAt(3, 0, 0)", x.bringAt(3, 0, 0), -1, 1);
        t.refused(x, "bringAt(0, 7, 0)", x.bringAt(0, 7, 0), -1, 1);
        // A deep cave in between is reached on the way to a mouth, no call being made there.
        WellVoice y = Checks.of(STAR + ";voice v shy at a");
        t.allowed(y, "bring(0, 1), no mouth behind it", y.bring(0, 1), -2);
        t.allowed(y, "bring(0, 3)", y.bring(0, 3), 2);
        t.allowed(y, "call(4)", y.call(4), 1);
        t.allowed(y, "bring(0, 3) from NOW", y.bring(0, 3), 1);
    }

    private static void firstRow() {
        // The first call may be at a or at e: both lead from b to c.
        WellVoice x = Checks.of(STAR + ";voice v rover at b");
        t.allowed(x, "bringAt(0, 4, 0), the first of like rows", x.bringAt(0, 4, 0), 0);
        t.allowed(x, "bringAt(0, 4, 1)", x.bringAt(0, 4, 1), 4);
        t.allowed(x, "bringAt(0, 4, 2)", x.bringAt(0, 4, 2), 4);
        t.refused(x, "bringAt(0, 4, 3)", x.bringAt(0, 4, 3), -1, 1);
        t.refused(x, "bringAt(0, 4, -1)", x.bringAt(0, 4, -1), -1, 1);
        t.allowed(x, "bringAt(0, 0, 0)", x.bringAt(0, 0, 0), 0);
        t.allowed(x, "bringAt(0, 0, 1)", x.bringAt(0, 0, 1), 0);
        t.refused(x, "bringAt(0, 0, 2)", x.bringAt(0, 0, 2), -1, 1);
    }

    private static void reach() {
        WellVoice x = Checks.of(STAR + ";voice v shy at b;voice w idle at c;voice u bold at f");
        t.allowed(x, "reach(0)", x.reach(0), 31);
        t.allowed(x, "reach(1), idle", x.reach(1), 4);
        t.allowed(x, "reach(2), too far", x.reach(2), 32);
        t.refused(x, "reach(3)", x.reach(3), -1, 1);
        t.refused(x, "reach(-1)", x.reach(-1), -1, 1);
        WellVoice y = Checks.of(STAR + ";voice v shy at a");
        t.allowed(y, "reach(0), never to b", y.reach(0), 29);
        t.allowed(y, "flood(2)", y.flood(2));
        t.allowed(y, "reach(0) NOW", y.reach(0), 1);
    }
}
