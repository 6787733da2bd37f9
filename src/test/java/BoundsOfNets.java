/** Promises 34 to 37: unsure ways, and talk that fits them. */
final class BoundsOfNets {
    private static final String CAVES = "well loud 5 errs 0 drought 0;cave a deep;cave b deep;cave c deep;cave d deep;cave e deep";
    private static final String FOUR = CAVES + ";way a b long 5 dry;way b c long 5 wet;way c d long 5 dry;way d e long 5 wet"
        + ";unsure a b;unsure c b;unsure c d;unsure d e";

    private final Bounds b;
    private final Checks t;

    BoundsOfNets(Bounds b) {
        this.b = b;
        t = b.t;
    }

    void run() {
        nets();
        netAt();
        dryBy();
        liar();
    }

    private void nets() {
        b.sentence(34, "NETS: sets of unsure ways that are otherwise (a wet one dry, a dry one wet, however many are), by which each talk was"
            + " so (heard: the one cave no farther than loud from the other one), all else as told at first: all such");
        WellVoice sure = Checks.of(CAVES);
        t.allowed(sure, "nets(), none unsure, no talk", sure.nets(), 1);
        WellVoice free = Checks.of(FOUR);
        t.allowed(free, "nets(), four unsure, no talk", free.nets(), 16);
        WellVoice at = Checks.of(FOUR + ";talk a b heard");
        t.allowed(at, "nets(), as far as loud", at.nets(), 8);
        WellVoice over = Checks.of(FOUR.replace("loud 5", "loud 4") + ";talk a b heard");
        t.allowed(over, "nets(), farther than loud", over.nets(), 0);
        WellVoice lost = Checks.of(FOUR.replace("loud 5", "loud 4") + ";talk a b lost");
        t.allowed(lost, "nets(), lost in all", lost.nets(), 16);
        WellVoice five = Checks.of(FOUR + ";talk a b heard;talk b c heard;talk c d heard;talk d e heard;talk a c lost");
        t.allowed(five, "nets(), one", five.nets(), 1);
        t.allowed(five, "netAt(0), the wet ones are dry", five.netAt(0), 2 | 8);
        WellVoice fifth = Checks.of(FOUR + ";talk a b heard;talk a b heard;talk a b heard;talk a b heard;talk b a lost");
        t.allowed(fifth, "nets(), the fifth talk", fifth.nets(), 0);
        // Six are wet as told, and the four others by the sets: ten in all.
        WellVoice wet = Checks.of(CAVES + ";way a b long 1 wet;way a c long 1 wet;way a d long 1 wet;way a e long 1 wet;way b c long 1 wet"
            + ";way b d long 1 wet;way b e long 1 dry;way c d long 1 dry;way c e long 1 dry;way d e long 1 dry;unsure b e;unsure c d;unsure c e"
            + ";unsure d e;talk b e lost;talk c d lost;talk c e lost;talk d e lost");
        t.allowed(wet, "nets(), ten wet", wet.nets(), 1);
        t.allowed(wet, "netAt(0), all", wet.netAt(0), 15);
        t.allowed(wet, "dig(0)", wet.dig(0));
        t.allowed(wet, "dig(1)", wet.dig(1));
        t.allowed(wet, "dig(4)", wet.dig(4));
        t.allowed(wet, "nets(), as told at first", wet.nets(), 1);
        b.sentence(34, "NONE: 1 (no WELL)");
        WellVoice no = new WellVoice();
        t.refused(no, "nets()", no.nets(), -1, 1);
    }

    private void netAt() {
        b.sentence(35, "The i-th, by bits of unsure ways as told");
        WellVoice free = Checks.of(FOUR);
        for (int i = 0; i < 16; i++) {
            t.allowed(free, "netAt(" + i + ")", free.netAt(i), i);
        }
        WellVoice dry = Checks.of(FOUR + ";talk d e heard");
        for (int i = 0; i < 8; i++) {
            t.allowed(dry, "netAt(" + i + "), d to e dry", dry.netAt(i), 8 + i);
        }
        b.sentence(35, "NONE: 1 (i, too)");
        for (int i : new int[] {-1, 16, 17, 32, Integer.MIN_VALUE, Integer.MAX_VALUE}) {
            t.refused(free, "netAt(" + i + ")", free.netAt(i), -1, 1);
        }
        t.refused(dry, "netAt(8), behind the last", dry.netAt(8), -1, 1);
        WellVoice none = Checks.of(FOUR + ";talk a b heard;talk a b lost");
        t.refused(none, "netAt(0), none", none.netAt(0), -1, 1);
        WellVoice sure = Checks.of(CAVES);
        t.allowed(sure, "netAt(0), the empty one", sure.netAt(0), 0);
        t.refused(sure, "netAt(1)", sure.netAt(1), -1, 1);
        WellVoice no = new WellVoice();
        t.refused(no, "netAt(0) without a WELL", no.netAt(0), -1, 1);
    }

    private void dryBy() {
        b.sentence(36, "By how many of them an unsure way is dry");
        WellVoice free = Checks.of(FOUR);
        for (int k = 0; k < 4; k++) {
            t.allowed(free, "dryBy(" + k + ")", free.dryBy(k), 8);
        }
        WellVoice dry = Checks.of(FOUR + ";talk d e heard;talk a b lost");
        t.allowed(dry, "dryBy(0), never", dry.dryBy(0), 0);
        t.allowed(dry, "dryBy(1)", dry.dryBy(1), 2);
        t.allowed(dry, "dryBy(3), by all", dry.dryBy(3), 4);
        WellVoice none = Checks.of(FOUR + ";talk a b heard;talk a b lost");
        t.allowed(none, "dryBy(3), none", none.dryBy(3), 0);
        b.sentence(36, "NONE: 1");
        for (int k : new int[] {-1, 4, 5, 32, Integer.MIN_VALUE, Integer.MAX_VALUE}) {
            t.refused(free, "dryBy(" + k + ")", free.dryBy(k), -1, 1);
        }
        WellVoice sure = Checks.of(CAVES + ";way a b long 1 dry");
        t.refused(sure, "dryBy(0), none unsure", sure.dryBy(0), -1, 1);
    }

    private void liar() {
        b.sentence(37, "The first talk, as told, that isn't so by ways as told; -2");
        WellVoice none = Checks.of(FOUR);
        t.allowed(none, "liar(), no talk", none.liar(), -2);
        WellVoice right = Checks.of(FOUR + ";talk a b heard;talk b c lost;talk a c lost;talk c d heard;talk e d lost");
        t.allowed(right, "liar(), all so", right.liar(), -2);
        WellVoice last = Checks.of(FOUR + ";talk a b heard;talk b c lost;talk a c lost;talk c d heard;talk e d heard");
        t.allowed(last, "liar(), the fifth", last.liar(), 4);
        WellVoice first = Checks.of(FOUR + ";talk a b lost;talk b c heard");
        t.allowed(first, "liar(), the first of two", first.liar(), 0);
        t.allowed(first, "flood(0)", first.flood(0));
        t.allowed(first, "dig(1)", first.dig(1));
        t.allowed(first, "liar(), by ways as told", first.liar(), 0);
        WellVoice over = Checks.of(FOUR.replace("loud 5", "loud 4") + ";talk a b heard");
        t.allowed(over, "liar(), farther than loud", over.liar(), 0);
        b.sentence(37, "NONE: 1 (no WELL)");
        WellVoice no = new WellVoice();
        t.refused(no, "liar()", no.liar(), -1, 1);
    }
}
