/** Promises 34 to 37: which unsure ways fit the talk. */
public final class NetsTest {
    private static final Checks t = new Checks();
    private static final String CAVES = "well loud 5 errs 0 drought 0;cave a deep;cave b deep;cave c deep;cave d deep"
        + ";way a b long 2 dry;way b c long 3 wet;way c d long 1 dry;way a d long 6 wet";

    public static void main(String[] args) {
        nets();
        none();
        many();
        liar();
        t.finish("NetsTest");
    }

    private static void nets() {
        // a hears c just if a-b and b-c are dry both; d is never heard from a: 6, or 6 by a-d.
        WellVoice x = Checks.of(CAVES + ";unsure b a;unsure b c;unsure a d;talk a c heard;talk d a lost");
        t.allowed(x, "nets()", x.nets(), 2);
        t.allowed(x, "netAt(0)", x.netAt(0), 2);
        t.allowed(x, "netAt(1)", x.netAt(1), 6);
        t.refused(x, "netAt(2)", x.netAt(2), -1, 1);
        t.refused(x, "netAt(-1)", x.netAt(-1), -1, 1);
        t.allowed(x, "dryBy(0), told dry", x.dryBy(0), 2);
        t.allowed(x, "dryBy(1), told wet", x.dryBy(1), 2);
        t.allowed(x, "dryBy(2)", x.dryBy(2), 1);
        t.refused(x, "dryBy(3)", x.dryBy(3), -1, 1);
        t.refused(x, "dryBy(-1)", x.dryBy(-1), -1, 1);
        t.allowed(x, "liar()", x.liar(), 0);
        t.allowed(x, "dig(1)", x.dig(1));
        t.allowed(x, "flood(0)", x.flood(0));
        t.allowed(x, "nets(), as told at first", x.nets(), 2);
        t.allowed(x, "netAt(0), as told at first", x.netAt(0), 2);
        t.allowed(x, "dryBy(0), as told at first", x.dryBy(0), 2);
        t.allowed(x, "liar(), by ways as told", x.liar(), 0);
        WellVoice none = new WellVoice();
        t.refused(none, "nets()", none.nets(), -1, 1);
        t.refused(none, "netAt(0)", none.netAt(0), -1, 1);
        t.refused(none, "dryBy(0)", none.dryBy(0), -1, 1);
        t.refused(none, "liar()", none.liar(), -1, 1);
    }

    private static void none() {
        WellVoice x = Checks.of(CAVES + ";unsure a b;talk a b lost;talk a b heard");
        t.allowed(x, "nets(), none", x.nets(), 0);
        t.refused(x, "netAt(0), none", x.netAt(0), -1, 1);
        t.allowed(x, "dryBy(0), none", x.dryBy(0), 0);
        WellVoice sure = Checks.of(CAVES);
        t.allowed(sure, "nets(), the empty set", sure.nets(), 1);
        t.allowed(sure, "netAt(0), the empty set", sure.netAt(0), 0);
        WellVoice free = Checks.of(CAVES + ";unsure a b;unsure b c;unsure c d;unsure d a");
        t.allowed(free, "nets(), no talk", free.nets(), 16);
        t.allowed(free, "netAt(15)", free.netAt(15), 15);
        t.allowed(free, "dryBy(3)", free.dryBy(3), 8);
    }

    private static void many() {
        // However many are wet: six as told, and two more by the sets.
        WellVoice x = Checks.of("well loud 1 errs 0 drought 0;cave a deep;cave b deep;cave c deep;cave d deep;cave e deep"
            + ";way a b long 1 dry;way b c long 1 dry;way a c long 1 wet;way a d long 1 wet;way a e long 1 wet"
            + ";way b d long 1 wet;way b e long 1 wet;way c d long 1 wet;unsure a b;unsure b c"
            + ";talk a b lost;talk b c lost");
        t.allowed(x, "nets(), eight wet", x.nets(), 1);
        t.allowed(x, "netAt(0), eight wet", x.netAt(0), 3);
    }

    private static void liar() {
        WellVoice x = Checks.of(CAVES + ";unsure b c;talk a b heard;talk c d heard;talk c b heard;talk a d heard");
        t.allowed(x, "liar(), the first", x.liar(), 2);
        WellVoice lost = Checks.of(CAVES + ";talk a c lost;talk b a lost");
        t.allowed(lost, "liar(), one that is heard", lost.liar(), 1);
        WellVoice no = Checks.of(CAVES + ";talk a b heard;talk a d lost");
        t.allowed(no, "liar(), none", no.liar(), -2);
    }
}
