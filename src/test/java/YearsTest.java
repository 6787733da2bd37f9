/** Promises 17 to 22: where voices go year by year, where they meet, when it goes round. */
public final class YearsTest {
    private static final Checks t = new Checks();
    private static final String HEAD = "well loud 1 errs 0 drought 0;cave a mouth;cave b deep;cave c deep;cave d deep"
        + ";cave e deep";

    public static void main(String[] args) {
        rover();
        shyAndBold();
        comes();
        meets();
        silent();
        goesRound();
        t.finish("YearsTest");
    }

    private static void caves(WellVoice x, int v, int... want) {
        for (int n = 0; n < want.length; n++) {
            t.allowed(x, "after(" + v + ", " + n + ")", x.after(v, n), want[n]);
        }
    }

    private static void rover() {
        // A tail a-b, then the ring b-c-d-e: the rover never sees the tail again.
        String text = HEAD + ";way a b long 1 dry;way b c long 1 dry;way c d long 1 dry;way d e long 1 dry"
            + ";way e b long 1 dry;voice v rover at a;voice w rover at c;voice i idle at d";
        WellVoice x = Checks.of(text);
        caves(x, 0, 0, 1, 2, 3, 4, 1, 0, 1, 2);
        caves(x, 1, 2, 1, 0, 1, 2, 3, 4, 1, 0);
        caves(x, 2, 3, 3, 3);
        t.allowed(x, "after(0, 60)", x.after(0, 60), 0);
        t.refused(x, "after(0, 61)", x.after(0, 61), -1, 2);
        t.refused(x, "after(0, -1)", x.after(0, -1), -1, 2);
        t.refused(x, "after(3, 0)", x.after(3, 0), -1, 1);
        t.refused(x, "after(-1, 61)", x.after(-1, 61), -1, 1);
        t.due("size(10), no year went by", x.size(10), 0);
        // The last cave it came from counts, though the way there is gone, and stays when it can't go.
        t.allowed(x, "year()", x.year(), 3);
        t.allowed(x, "flood(0)", x.flood(0));
        caves(x, 0, 1, 2, 3, 4, 1, 2);
        t.allowed(x, "flood(1)", x.flood(1));
        t.allowed(x, "flood(4)", x.flood(4));
        caves(x, 0, 1, 1, 1);
        t.allowed(x, "voice(0, 2), kept", x.voice(0, 2), 0);
    }

    private static void shyAndBold() {
        // Folk at a; the far end of the row is e, whose nearest folk are farthest.
        String row = HEAD + ";way a b long 1 dry;way b c long 1 dry;way c d long 1 dry;voice v shy at b"
            + ";voice w bold at d;voice x shy at e";
        WellVoice x = Checks.of(row + ";folk f at a");
        caves(x, 0, 1, 2, 3, 3);
        caves(x, 1, 3, 2, 1, 0, 0);
        caves(x, 2, 4, 4);
        WellVoice none = Checks.of(row);
        caves(none, 0, 1, 1);
        caves(none, 1, 3, 3);
        // Two folk: the nearest of them counts, and like caves go by numbers, staying ahead of all.
        WellVoice two = Checks.of(HEAD + ";way c a long 2 dry;way c b long 2 dry;way c d long 1 dry;voice v bold at c"
            + ";voice w shy at d;folk f at a;folk g at b");
        caves(two, 0, 2, 0, 0);
        caves(two, 1, 3, 3);
        WellVoice mid = Checks.of(HEAD + ";way c a long 2 dry;way c b long 2 dry;voice v shy at c;voice w bold at c"
            + ";folk f at c");
        caves(mid, 0, 2, 0, 0);
        caves(mid, 1, 2, 2);
        // Years to come are by folk who stay where they are NOW.
        t.allowed(mid, "walk(0, 0)", mid.walk(0, 0));
        caves(mid, 0, 2, 1, 1);
        caves(mid, 1, 2, 0, 0);
        // A long way to a neighbour is no matter: what counts is how far folk are from there.
        WellVoice far = Checks.of(HEAD + ";way a b long 20 dry;way b c long 1 dry;voice v bold at b;voice w shy at b"
            + ";folk f at a");
        caves(far, 0, 1, 0, 0);
        caves(far, 1, 1, 2, 2);
    }

    private static void comes() {
        String text = HEAD + ";way a b long 1 dry;way b c long 1 dry;voice v rover at a";
        WellVoice x = Checks.of(text);
        t.allowed(x, "comes(0, 0)", x.comes(0, 0), 0);
        t.allowed(x, "comes(0, 2)", x.comes(0, 2), 2);
        t.allowed(x, "comes(0, 3)", x.comes(0, 3), -2);
        t.allowed(x, "year()", x.year(), 1);
        t.allowed(x, "comes(0, 0) from NOW", x.comes(0, 0), 3);
        t.refused(x, "comes(1, 0)", x.comes(1, 0), -1, 1);
        t.refused(x, "comes(-1, 0)", x.comes(-1, 0), -1, 1);
        t.refused(x, "comes(0, 5)", x.comes(0, 5), -1, 1);
        t.refused(x, "comes(0, -1)", x.comes(0, -1), -1, 1);
    }

    private static void meets() {
        WellVoice x = Checks.of(HEAD + ";way a b long 1 dry;way b c long 1 dry;voice v rover at a;voice w idle at c"
            + ";voice u rover at b");
        t.allowed(x, "meets(0, 1)", x.meets(0, 1), 2);
        t.allowed(x, "meets(1, 0)", x.meets(1, 0), 2);
        t.allowed(x, "meets(0, 2), they pass", x.meets(0, 2), -2);
        t.refused(x, "meets(1, 1)", x.meets(1, 1), -1, 1);
        t.refused(x, "meets(0, 3)", x.meets(0, 3), -1, 1);
        t.refused(x, "meets(-1, 0)", x.meets(-1, 0), -1, 1);
        WellVoice y = Checks.of(HEAD + ";voice v rover at a;voice w idle at a");
        t.allowed(y, "meets(0, 1), in one cave", y.meets(0, 1), 0);
    }

    private static void silent() {
        String text = HEAD + ";way a b long 1 dry;way b c long 1 dry;voice v rover at a;voice w idle at b";
        WellVoice x = Checks.of(text + ";folk f at a");
        t.allowed(x, "silentIn(0)", x.silentIn(0), 2);
        t.allowed(x, "silentIn(1)", x.silentIn(1), -2);
        t.refused(x, "silentIn(2)", x.silentIn(2), -1, 1);
        t.refused(x, "silentIn(-1)", x.silentIn(-1), -1, 1);
        WellVoice none = Checks.of(text);
        t.allowed(none, "silentIn(0) without folk", none.silentIn(0), 0);
    }

    private static void goesRound() {
        // The tail d-b is left for good: b's first other neighbour is a, then the ring a-b-c.
        WellVoice x = Checks.of(HEAD + ";way a b long 1 dry;way b c long 1 dry;way c a long 1 dry;way e d long 1 dry"
            + ";way d b long 1 dry;voice v rover at e;voice w idle at a;voice s shy at b;folk f at b");
        caves(x, 0, 4, 3, 1, 0, 2, 1, 0, 2, 1);
        t.allowed(x, "settles(0)", x.settles(0), 2);
        t.allowed(x, "round(0)", x.round(0), 3);
        t.allowed(x, "settles(1)", x.settles(1), 0);
        t.allowed(x, "round(1)", x.round(1), 1);
        t.allowed(x, "settles(2)", x.settles(2), 1);
        t.allowed(x, "round(2)", x.round(2), 1);
        t.refused(x, "settles(3)", x.settles(3), -1, 1);
        t.refused(x, "settles(-1)", x.settles(-1), -1, 1);
        t.refused(x, "round(3)", x.round(3), -1, 1);
        t.refused(x, "round(-1)", x.round(-1), -1, 1);
        // It came from nowhere at first, and from c when it is there again: its caves are what counts.
        WellVoice y = Checks.of(HEAD + ";way a b long 1 dry;way b c long 1 dry;voice v rover at b");
        t.allowed(y, "settles(0) by caves alone", y.settles(0), 0);
        t.allowed(y, "round(0)", y.round(0), 4);
    }
}
