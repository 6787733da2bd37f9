/** Promises 43 to 46: droughts by chance and by draws. */
public final class DroughtTest {
    private static final Checks t = new Checks();

    /** a to c: 5 over b by two wet ways, or 9 by one; d behind a dry way, e alone. */
    private static String text(int drought) {
        return "well loud 5 errs 0 drought " + drought + ";cave a deep;cave b deep;cave c deep;cave d deep;cave e deep"
            + ";way a b long 2 wet;way c d long 1 dry;way b c long 3 wet;way a c long 9 wet";
    }

    private static void within(WellVoice x, int c, int to, int much, long upper, long lower) {
        String call = "within(" + c + ", " + to + ", " + much + ")";
        t.allowed(x, call + " above", x.within(c, to, much, false), upper);
        t.allowed(x, call + " below", x.within(c, to, much, true), lower);
    }

    private static void mean(WellVoice x, int c, long upper, long lower) {
        t.allowed(x, "mean(" + c + ") above", x.mean(c, false), upper);
        t.allowed(x, "mean(" + c + ") below", x.mean(c, true), lower);
    }

    public static void main(String[] args) {
        within();
        mean();
        six();
        bySeed();
        open();
        t.finish("DroughtTest");
    }

    private static void within() {
        WellVoice x = Checks.of(text(20));
        within(x, 0, 2, 4, 0, 1);
        within(x, 0, 2, 5, 1, 25);
        within(x, 0, 2, 8, 1, 25);
        within(x, 0, 2, 9, 29, 125);
        within(x, 2, 0, 200, 29, 125);
        within(x, 0, 3, 6, 1, 25);
        within(x, 0, 0, 0, 1, 1);
        within(x, 2, 3, 1, 1, 1);
        within(x, 2, 3, 0, 0, 1);
        within(x, 0, 4, 200, 0, 1);
        t.allowed(x, "dig(3)", x.dig(3));
        within(x, 0, 2, 9, 1, 1);
        within(x, 0, 2, 8, 1, 25);
        t.refused(x, "within(5, 0, 0)", x.within(5, 0, 0, false), -1, 1);
        t.refused(x, "within(0, -1, 201)", x.within(0, -1, 201, true), -1, 1);
        t.refused(x, "within(0, 0, 201)", x.within(0, 0, 201, false), -1, 2);
        t.refused(x, "within(0, 0, -1)", x.within(0, 0, -1, true), -1, 2);
        within(x, 0, 2, 8, 1, 25);
        WellVoice never = Checks.of(text(0));
        within(never, 0, 2, 200, 0, 1);
        WellVoice ever = Checks.of(text(100));
        within(ever, 0, 2, 5, 1, 1);
    }

    private static void mean() {
        WellVoice x = Checks.of(text(50));
        // c and d by 5 of 8, b by 5 of 8 too, and itself.
        mean(x, 0, 23, 8);
        mean(x, 4, 1, 1);
        mean(x, 2, 13, 4);
        t.allowed(x, "flood(1)", x.flood(1));
        mean(x, 3, 17, 8);
        t.refused(x, "mean(5, true)", x.mean(5, true), -1, 1);
        t.refused(x, "mean(-1, false)", x.mean(-1, false), -1, 1);
        mean(x, 3, 17, 8);
        WellVoice none = new WellVoice();
        t.refused(none, "mean(0, false)", none.mean(0, false), -1, 1);
        t.refused(none, "within(0, 0, 0, false)", none.within(0, 0, 0, false), -1, 1);
    }

    private static void six() {
        WellVoice x = Checks.of("well loud 5 errs 0 drought 99;cave a deep;cave b deep;cave c deep;cave d deep"
            + ";cave e deep;cave f deep;cave g deep;way a b long 20 wet;way b c long 20 wet;way c d long 20 wet"
            + ";way d e long 20 wet;way e f long 20 wet;way f g long 20 wet");
        within(x, 0, 6, 120, 941480149401L, 1000000000000L);
        within(x, 0, 6, 119, 0, 1);
        // 1 + p + p^2 + .. + p^6, p being 99 of 100.
        mean(x, 0, 6793465209301L, 1000000000000L);
    }

    private static void bySeed() {
        WellVoice x = Checks.of(text(50));
        // From 23 the draws are 99, 25, 1 mod 100: wet, dry, dry; from 2 they are 24, 74, 21; from 0 74, 24, 52.
        t.allowed(x, "farBy(0, 2, 23)", x.farBy(0, 2, 23), 9);
        t.allowed(x, "farBy(0, 1, 23)", x.farBy(0, 1, 23), 12);
        t.allowed(x, "farBy(0, 1, 2)", x.farBy(0, 1, 2), 2);
        t.allowed(x, "farBy(1, 2, 2)", x.farBy(1, 2, 2), 11);
        t.allowed(x, "farBy(0, 2, 0)", x.farBy(0, 2, 0), -2);
        t.allowed(x, "farBy(0, 4, 0)", x.farBy(0, 4, 0), -2);
        t.allowed(x, "farBy(0, 0, 65536)", x.farBy(0, 0, 65536), 0);
        t.refused(x, "farBy(0, 0, 65537)", x.farBy(0, 0, 65537), -1, 2);
        t.refused(x, "farBy(0, 0, -1)", x.farBy(0, 0, -1), -1, 2);
        t.refused(x, "farBy(5, 0, -1)", x.farBy(5, 0, -1), -1, 1);
        t.refused(x, "farBy(0, -1, 0)", x.farBy(0, -1, 0), -1, 1);
        // Only ways wet NOW are drawn for: the first draw is that of b-c.
        t.allowed(x, "dig(0)", x.dig(0));
        t.allowed(x, "farBy(1, 2, 0)", x.farBy(1, 2, 0), 11);
        t.due("way(2, 3), it was a thought alone", x.way(2, 3), 1);
        // 74 is below 75 and not below 74.
        WellVoice above = Checks.of(text(75));
        t.allowed(above, "farBy(0, 1, 0), 74 below 75", above.farBy(0, 1, 0), 2);
        WellVoice equal = Checks.of(text(74));
        t.allowed(equal, "farBy(0, 1, 0), 74 not below 74", equal.farBy(0, 1, 0), 12);
    }

    private static void open() {
        WellVoice x = Checks.of("well loud 5 errs 0 drought 50;cave a deep;cave b deep;cave c deep;way a b long 2 wet");
        // The draws from 0 on: 74, 24, 52, 90, 41, 9 mod 100.
        t.allowed(x, "open(0, 1, 0, 0)", x.open(0, 1, 0, 0), 0);
        t.allowed(x, "open(0, 1, 0, 1)", x.open(0, 1, 0, 1), 0);
        t.allowed(x, "open(0, 1, 0, 2)", x.open(0, 1, 0, 2), 1);
        t.allowed(x, "open(0, 1, 0, 5)", x.open(0, 1, 0, 5), 2);
        t.allowed(x, "open(0, 1, 0, 6)", x.open(0, 1, 0, 6), 3);
        t.allowed(x, "open(0, 2, 0, 60)", x.open(0, 2, 0, 60), 0);
        t.allowed(x, "open(2, 2, 65536, 60)", x.open(2, 2, 65536, 60), 60);
        t.refused(x, "open(0, 1, 0, 61)", x.open(0, 1, 0, 61), -1, 2);
        t.refused(x, "open(0, 1, 0, -1)", x.open(0, 1, 0, -1), -1, 2);
        t.refused(x, "open(0, 1, 65537, 1)", x.open(0, 1, 65537, 1), -1, 2);
        t.refused(x, "open(0, 1, -1, 1)", x.open(0, 1, -1, 1), -1, 2);
        t.refused(x, "open(3, 0, -1, 1)", x.open(3, 0, -1, 1), -1, 1);
        t.refused(x, "open(0, -1, 0, 61)", x.open(0, -1, 0, 61), -1, 1);
    }
}
