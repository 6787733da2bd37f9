/** Promises 6 to 16: caves, ways, voices, folk, how far it is, who hears, parts and necks. */
public final class NowTest {
    private static final Checks t = new Checks();

    /** a-b-c in a row, a longer way a-c, d and e apart but for a wet way, f alone. */
    private static final String TEXT = "well loud 3 errs 0 drought 0;cave a mouth;cave b deep;cave c deep"
        + ";cave d mouth;cave e deep;cave f deep;way b a long 1 dry;way b c long 2 dry;way c a long 9 dry"
        + ";way c d long 4 wet;way d e long 1 dry;voice v shy at b;voice w rover at d;voice x idle at b"
        + ";folk p at a;folk q at c;folk r at e;folk s at a";

    public static void main(String[] args) {
        cave();
        way();
        voiceAndFolk();
        far();
        next();
        hearing();
        partsAndFarthest();
        neck();
        t.finish("NowTest");
    }

    private static void cave() {
        WellVoice x = Checks.of(TEXT);
        t.allowed(x, "cave(0, 0)", x.cave(0, 0), 1);
        t.allowed(x, "cave(1, 0)", x.cave(1, 0), 0);
        t.allowed(x, "cave(3, 0)", x.cave(3, 0), 1);
        t.allowed(x, "cave(2, 1)", x.cave(2, 1), 3);
        t.allowed(x, "cave(3, 1)", x.cave(3, 1), 16);
        t.allowed(x, "cave(5, 1)", x.cave(5, 1), 0);
        t.allowed(x, "cave(1, 2)", x.cave(1, 2), 5);
        t.allowed(x, "cave(0, 2)", x.cave(0, 2), 0);
        t.allowed(x, "cave(0, 3)", x.cave(0, 3), 9);
        t.allowed(x, "cave(4, 3)", x.cave(4, 3), 4);
        t.allowed(x, "cave(2, 4)", x.cave(2, 4), 3);
        t.allowed(x, "cave(5, 4)", x.cave(5, 4), 0);
        t.allowed(x, "flood(0)", x.flood(0));
        t.allowed(x, "cave(0, 1) NOW", x.cave(0, 1), 4);
        t.allowed(x, "cave(0, 4), wet ones too", x.cave(0, 4), 2);
        for (int wrong : new int[] {-1, 6, 8, Integer.MIN_VALUE, Integer.MAX_VALUE}) {
            t.refused(x, "cave(" + wrong + ", 0)", x.cave(wrong, 0), -1, 1);
        }
        t.refused(x, "cave(0, 5)", x.cave(0, 5), -1, 1);
        t.refused(x, "cave(0, -1)", x.cave(0, -1), -1, 1);
    }

    private static void way() {
        WellVoice x = Checks.of(TEXT);
        t.allowed(x, "way(0, 0)", x.way(0, 0), 0);
        t.allowed(x, "way(0, 1)", x.way(0, 1), 1);
        t.allowed(x, "way(2, 0)", x.way(2, 0), 0);
        t.allowed(x, "way(2, 1)", x.way(2, 1), 2);
        t.allowed(x, "way(2, 2)", x.way(2, 2), 9);
        t.allowed(x, "way(3, 3)", x.way(3, 3), 1);
        t.allowed(x, "way(4, 3)", x.way(4, 3), 0);
        t.allowed(x, "dig(3)", x.dig(3));
        t.allowed(x, "way(3, 3) NOW", x.way(3, 3), 0);
        t.refused(x, "way(5, 0)", x.way(5, 0), -1, 1);
        t.refused(x, "way(-1, 0)", x.way(-1, 0), -1, 1);
        t.refused(x, "way(0, 4)", x.way(0, 4), -1, 1);
        t.refused(x, "way(0, -1)", x.way(0, -1), -1, 1);
    }

    private static void voiceAndFolk() {
        WellVoice x = Checks.of(TEXT);
        t.allowed(x, "voice(0, 0)", x.voice(0, 0), 1);
        t.allowed(x, "voice(1, 0)", x.voice(1, 0), 3);
        t.allowed(x, "voice(2, 0)", x.voice(2, 0), 0);
        t.allowed(x, "voice(1, 1)", x.voice(1, 1), 3);
        t.allowed(x, "voice(1, 2)", x.voice(1, 2), -2);
        t.allowed(x, "year()", x.year(), 2);
        t.allowed(x, "voice(1, 1) NOW", x.voice(1, 1), 4);
        t.allowed(x, "voice(1, 2) NOW", x.voice(1, 2), 3);
        t.refused(x, "voice(3, 0)", x.voice(3, 0), -1, 1);
        t.refused(x, "voice(-1, 0)", x.voice(-1, 0), -1, 1);
        t.refused(x, "voice(0, 3)", x.voice(0, 3), -1, 1);
        t.refused(x, "voice(0, -1)", x.voice(0, -1), -1, 1);
        WellVoice bold = Checks.of("well loud 0 errs 0 drought 0;cave a deep;voice v bold at a");
        t.allowed(bold, "voice(0, 0) of a bold one", bold.voice(0, 0), 2);
        t.allowed(x, "folk(1)", x.folk(1), 2);
        t.allowed(x, "folk(3)", x.folk(3), 0);
        t.refused(x, "folk(4)", x.folk(4), -1, 1);
        t.refused(x, "folk(-1)", x.folk(-1), -1, 1);
    }

    private static void far() {
        WellVoice x = Checks.of(TEXT);
        t.allowed(x, "far(0, 2), not by the longer way", x.far(0, 2), 3);
        t.allowed(x, "far(2, 0)", x.far(2, 0), 3);
        t.allowed(x, "far(4, 4)", x.far(4, 4), 0);
        t.allowed(x, "far(2, 3), a wet way", x.far(2, 3), -2);
        t.allowed(x, "dig(3)", x.dig(3));
        t.allowed(x, "far(0, 4)", x.far(0, 4), 8);
        t.allowed(x, "flood(1)", x.flood(1));
        t.allowed(x, "far(0, 4) by the longer way", x.far(0, 4), 14);
        t.refused(x, "far(6, 0)", x.far(6, 0), -1, 1);
        t.refused(x, "far(0, -1)", x.far(0, -1), -1, 1);
    }

    private static void next() {
        WellVoice x = Checks.of(TEXT);
        t.allowed(x, "next(0, 2)", x.next(0, 2), 1);
        t.allowed(x, "next(2, 0)", x.next(2, 0), 1);
        t.allowed(x, "next(0, 0)", x.next(0, 0), -2);
        t.allowed(x, "next(0, 3)", x.next(0, 3), -2);
        t.refused(x, "next(0, 6)", x.next(0, 6), -1, 1);
        t.refused(x, "next(-1, 0)", x.next(-1, 0), -1, 1);
        // Over b or over c it is as far; and c lies behind d, so that its own longer way is not the one.
        WellVoice y = Checks.of("well loud 9 errs 0 drought 0;cave a deep;cave b deep;cave c deep;cave d deep"
            + ";cave e deep;way a c long 1 dry;way a b long 2 dry;way c d long 2 dry;way b d long 1 dry"
            + ";way d e long 1 dry;way e a long 5 dry");
        t.allowed(y, "next(0, 3), the first of like ones", y.next(0, 3), 1);
        t.allowed(y, "next(0, 4)", y.next(0, 4), 1);
        WellVoice z = Checks.of("well loud 9 errs 0 drought 0;cave a deep;cave b deep;cave c deep;cave d deep"
            + ";way a b long 9 dry;way a c long 1 dry;way c b long 1 dry;way b d long 1 dry");
        t.allowed(z, "next(0, 3), not by b's own longer way", z.next(0, 3), 2);
    }

    private static void hearing() {
        WellVoice x = Checks.of(TEXT);
        t.allowed(x, "hearers(0)", x.hearers(0), 11);
        t.allowed(x, "hearers(1)", x.hearers(1), 4);
        t.allowed(x, "flood(0)", x.flood(0));
        t.allowed(x, "hearers(0) NOW", x.hearers(0), 2);
        t.refused(x, "hearers(3)", x.hearers(3), -1, 1);
        t.refused(x, "hearers(-1)", x.hearers(-1), -1, 1);
        x = Checks.of(TEXT);
        t.allowed(x, "heardFrom(0), no farther than loud", x.heardFrom(0), 7);
        t.allowed(x, "heardFrom(3)", x.heardFrom(3), 24);
        t.allowed(x, "heardFrom(5)", x.heardFrom(5), 32);
        x = Checks.of(TEXT.replace("loud 3", "loud 2"));
        t.allowed(x, "heardFrom(0), one is farther", x.heardFrom(0), 3);
        t.refused(x, "heardFrom(6)", x.heardFrom(6), -1, 1);
        t.refused(x, "heardFrom(-1)", x.heardFrom(-1), -1, 1);
    }

    private static void partsAndFarthest() {
        WellVoice x = Checks.of(TEXT);
        t.allowed(x, "parts()", x.parts(), 3);
        t.allowed(x, "farthest(0)", x.farthest(0), 2);
        t.allowed(x, "farthest(1)", x.farthest(1), 2);
        t.allowed(x, "farthest(2)", x.farthest(2), 0);
        t.allowed(x, "farthest(4)", x.farthest(4), 3);
        t.allowed(x, "farthest(5), itself", x.farthest(5), 5);
        t.allowed(x, "dig(3)", x.dig(3));
        t.allowed(x, "parts() NOW", x.parts(), 2);
        t.allowed(x, "farthest(0) NOW", x.farthest(0), 4);
        t.refused(x, "farthest(6)", x.farthest(6), -1, 1);
        t.refused(x, "farthest(-1)", x.farthest(-1), -1, 1);
        WellVoice like = Checks.of("well loud 9 errs 0 drought 0;cave a deep;cave b deep;cave c deep"
            + ";way b a long 4 dry;way b c long 4 dry");
        t.allowed(like, "farthest(1), the first such", like.farthest(1), 0);
        WellVoice none = new WellVoice();
        t.refused(none, "parts() without a WELL", none.parts(), -1, 1);
    }

    private static void neck() {
        WellVoice x = Checks.of(TEXT);
        t.allowed(x, "neck(), a ring and a pair", x.neck(), -2);
        t.allowed(x, "dig(3)", x.dig(3));
        // Without c a and b lose d and e (4 pairs), without d those three lose e (3).
        t.allowed(x, "neck()", x.neck(), 2);
        t.allowed(x, "flood(2)", x.flood(2));
        t.allowed(x, "neck(), a row", x.neck(), 2);
        WellVoice row = Checks.of("well loud 9 errs 0 drought 0;cave a deep;cave b deep;cave c deep;cave d deep"
            + ";way d a long 1 dry;way a c long 1 dry;way c b long 1 dry");
        t.allowed(row, "neck(), the first of like ones", row.neck(), 0);
        WellVoice none = new WellVoice();
        t.refused(none, "neck() without a WELL", none.neck(), -1, 1);
    }
}
