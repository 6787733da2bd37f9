/** Terms II and promises 6 to 16: caves, ways, voices, folk, how far it is, who hears. */
final class BoundsOfNow {
    private static final String EIGHT = "well loud 5 errs 5 drought 5;cave a mouth;cave b deep;cave c deep;cave d deep"
        + ";cave e deep;cave f deep;cave g deep;cave h mouth";
    /** All rooms full: eight caves, ten ways (six wet), three voices, four folk. */
    private static final String FULL = EIGHT + ";way b a long 20 dry;way c a long 1 wet;way d a long 2 wet"
        + ";way e a long 3 wet;way f a long 4 wet;way g a long 5 wet;way h a long 6 wet;way h b long 20 dry"
        + ";way c b long 7 dry;way h g long 8 dry;voice v idle at h;voice w shy at h;voice x rover at h"
        + ";folk m at h;folk n at h;folk o at h;folk p at h";
    private static final String ONE = "well loud 0 errs 0 drought 0;cave a deep";
    private static final int[] NO_CAVES = {-1, 8, 9, 31, 32, 40, 256, Integer.MIN_VALUE, Integer.MAX_VALUE};

    private final Bounds b;
    private final Checks t;

    BoundsOfNow(Bounds b) {
        this.b = b;
        t = b.t;
    }

    void run() {
        cave();
        way();
        voice();
        folk();
        far();
        next();
        hearers();
        heardFrom();
        parts();
        farthest();
        neck();
    }

    private void cave() {
        WellVoice x = Checks.of(FULL);
        b.sentence(6, "Of a cave 0 1 if it is a mouth, else 0");
        t.allowed(x, "cave(0, 0)", x.cave(0, 0), 1);
        t.allowed(x, "cave(6, 0)", x.cave(6, 0), 0);
        t.allowed(x, "cave(7, 0), the last", x.cave(7, 0), 1);
        b.sentence(6, "1 its NEIGHBOURS, as bits");
        t.allowed(x, "cave(7, 1)", x.cave(7, 1), 1 << 6 | 1 << 1);
        t.allowed(x, "cave(3, 1), none", x.cave(3, 1), 0);
        t.allowed(x, "cave(6, 1), the last bit", x.cave(6, 1), 128);
        b.sentence(6, "NEIGHBOURS of a cave: those to which a dry way leads");
        t.allowed(x, "dig(6), from a to h", x.dig(6));
        t.allowed(x, "cave(7, 1)", x.cave(7, 1), 1 << 6 | 1 << 1 | 1);
        t.allowed(x, "flood(7), from b to h", x.flood(7));
        t.allowed(x, "cave(7, 1)", x.cave(7, 1), 1 << 6 | 1);
        t.allowed(x, "undo()", x.undo());
        t.allowed(x, "undo()", x.undo());
        b.sentence(6, "2 voices in it, as bits");
        t.allowed(x, "cave(7, 2), all", x.cave(7, 2), 7);
        t.allowed(x, "cave(0, 2), none", x.cave(0, 2), 0);
        b.sentence(6, "3 folk in it, as bits");
        t.allowed(x, "cave(7, 3), all", x.cave(7, 3), 15);
        t.allowed(x, "cave(0, 3), none", x.cave(0, 3), 0);
        b.sentence(6, "4 how many ways, dry or wet");
        t.allowed(x, "cave(0, 4)", x.cave(0, 4), 7);
        t.allowed(x, "cave(3, 4), a wet one", x.cave(3, 4), 1);
        WellVoice alone = Checks.of(ONE);
        t.allowed(alone, "cave(0, 4), none", alone.cave(0, 4), 0);
        t.allowed(alone, "cave(0, 1), none", alone.cave(0, 1), 0);
        t.allowed(alone, "cave(0, 2), none", alone.cave(0, 2), 0);
        t.allowed(alone, "cave(0, 3), none", alone.cave(0, 3), 0);
        b.sentence(6, "NONE: 1");
        for (int c : NO_CAVES) {
            t.refused(x, "cave(" + c + ", 0)", x.cave(c, 0), -1, 1);
        }
        t.refused(alone, "cave(1, 0), beside one cave", alone.cave(1, 0), -1, 1);
        for (int what : new int[] {-1, 5, 6, Integer.MIN_VALUE, Integer.MAX_VALUE}) {
            t.refused(x, "cave(0, " + what + ")", x.cave(0, what), -1, 1);
        }
        WellVoice none = new WellVoice();
        t.refused(none, "cave(0, 0) without a WELL", none.cave(0, 0), -1, 1);
    }

    private void way() {
        WellVoice x = Checks.of(FULL);
        b.sentence(7, "Of a way, as told, 0 the lesser cave, 1 the other one, 2 how long, 3 1 if it is wet NOW, else 0");
        t.allowed(x, "way(0, 0)", x.way(0, 0), 0);
        t.allowed(x, "way(0, 1)", x.way(0, 1), 1);
        t.allowed(x, "way(9, 0), the last", x.way(9, 0), 6);
        t.allowed(x, "way(9, 1)", x.way(9, 1), 7);
        t.allowed(x, "way(0, 2), the longest", x.way(0, 2), 20);
        t.allowed(x, "way(1, 2), the shortest", x.way(1, 2), 1);
        t.allowed(x, "way(6, 3)", x.way(6, 3), 1);
        t.allowed(x, "way(7, 3)", x.way(7, 3), 0);
        t.allowed(x, "dig(6)", x.dig(6));
        t.allowed(x, "flood(7)", x.flood(7));
        t.allowed(x, "way(6, 3) NOW", x.way(6, 3), 0);
        t.allowed(x, "way(7, 3) NOW", x.way(7, 3), 1);
        b.sentence(7, "NONE: 1");
        for (int k : new int[] {-1, 10, 11, 32, Integer.MIN_VALUE, Integer.MAX_VALUE}) {
            t.refused(x, "way(" + k + ", 0)", x.way(k, 0), -1, 1);
        }
        for (int what : new int[] {-1, 4, 5, Integer.MIN_VALUE, Integer.MAX_VALUE}) {
            t.refused(x, "way(0, " + what + ")", x.way(0, what), -1, 1);
        }
        WellVoice alone = Checks.of(ONE);
        t.refused(alone, "way(0, 0), no ways", alone.way(0, 0), -1, 1);
    }

    private void voice() {
        WellVoice x = Checks.of(FULL);
        b.sentence(8, "Of a voice 0 KIND (0 idle, 1 shy, 2 bold, 3 rover)");
        t.allowed(x, "voice(0, 0)", x.voice(0, 0), 0);
        t.allowed(x, "voice(1, 0)", x.voice(1, 0), 1);
        t.allowed(x, "voice(2, 0)", x.voice(2, 0), 3);
        WellVoice bold = Checks.of(ONE + ";voice v bold at a");
        t.allowed(bold, "voice(0, 0)", bold.voice(0, 0), 2);
        b.sentence(8, "1 its cave");
        t.allowed(x, "voice(0, 1)", x.voice(0, 1), 7);
        t.allowed(bold, "voice(0, 1)", bold.voice(0, 1), 0);
        b.sentence(8, "2 the cave it came from (-2 none)");
        for (int v = 0; v < 3; v++) {
            t.allowed(x, "voice(" + v + ", 2)", x.voice(v, 2), -2);
        }
        t.allowed(x, "year()", x.year() & 4, 4);
        t.allowed(x, "voice(2, 2)", x.voice(2, 2), 7);
        t.allowed(x, "voice(0, 2), it never goes", x.voice(0, 2), -2);
        t.allowed(x, "undo()", x.undo());
        t.allowed(x, "voice(2, 2), none again", x.voice(2, 2), -2);
        b.sentence(8, "NONE: 1");
        for (int v : new int[] {-1, 3, 4, 32, Integer.MIN_VALUE, Integer.MAX_VALUE}) {
            t.refused(x, "voice(" + v + ", 1)", x.voice(v, 1), -1, 1);
        }
        for (int what : new int[] {-1, 3, 4, Integer.MIN_VALUE, Integer.MAX_VALUE}) {
            t.refused(x, "voice(0, " + what + ")", x.voice(0, what), -1, 1);
        }
        WellVoice alone = Checks.of(ONE);
        t.refused(alone, "voice(0, 0), no voices", alone.voice(0, 0), -1, 1);
    }

    private void folk() {
        WellVoice x = Checks.of(FULL);
        b.sentence(9, "The cave of one of the folk. NONE: 1");
        t.allowed(x, "folk(0)", x.folk(0), 7);
        t.allowed(x, "folk(3), the last", x.folk(3), 7);
        for (int f : new int[] {-1, 4, 5, 32, Integer.MIN_VALUE, Integer.MAX_VALUE}) {
            t.refused(x, "folk(" + f + ")", x.folk(f), -1, 1);
        }
        WellVoice alone = Checks.of(ONE);
        t.refused(alone, "folk(0), no folk", alone.folk(0), -1, 1);
    }

    private void far() {
        String row = EIGHT + ";way a b long 20 dry;way b c long 20 dry;way c d long 20 dry;way d e long 20 dry"
            + ";way e f long 20 dry;way f g long 20 dry;way g h long 20 dry";
        WellVoice x = Checks.of(row);
        b.sentence(10, "FAR: the least length of dry ways, one behind the other, from cave to cave (0: the same)");
        for (int c = 0; c < 8; c++) {
            t.allowed(x, "far(" + c + ", " + c + ")", x.far(c, c), 0);
            t.allowed(x, "far(0, " + c + ")", x.far(0, c), 20 * c);
            t.allowed(x, "far(" + c + ", 7)", x.far(c, 7), 140 - 20 * c);
        }
        WellVoice near = Checks.of(EIGHT + ";way a b long 3 dry;way b c long 3 dry;way a c long 7 dry;way a d long 1 wet"
            + ";way d c long 1 dry");
        t.allowed(near, "far(0, 2), not the one way", near.far(0, 2), 6);
        t.allowed(near, "far(0, 3), not the wet one", near.far(0, 3), 7);
        b.sentence(10, "-2 there is no dry way");
        t.allowed(near, "far(0, 7)", near.far(0, 7), -2);
        t.allowed(near, "far(7, 0)", near.far(7, 0), -2);
        t.allowed(near, "far(7, 7), it is there all the same", near.far(7, 7), 0);
        t.allowed(near, "flood(4)", near.flood(4));
        t.allowed(near, "far(0, 3), a wet one alone", near.far(0, 3), -2);
        b.sentence(10, "NONE: 1");
        for (int c : NO_CAVES) {
            t.refused(x, "far(" + c + ", 0)", x.far(c, 0), -1, 1);
            t.refused(x, "far(0, " + c + ")", x.far(0, c), -1, 1);
            t.refused(x, "far(" + c + ", " + c + ")", x.far(c, c), -1, 1);
        }
        WellVoice none = new WellVoice();
        t.refused(none, "far(0, 0) without a WELL", none.far(0, 0), -1, 1);
    }

    private void next() {
        WellVoice x = Checks.of(EIGHT + ";way a h long 2 dry;way a g long 2 dry;way g f long 2 dry;way h f long 2 dry"
            + ";way a f long 5 dry;way c d long 4 wet");
        b.sentence(11, "The first cave on the way, by numbers, from one to another one");
        t.allowed(x, "next(0, 5), over g or over h", x.next(0, 5), 6);
        t.allowed(x, "next(5, 0)", x.next(5, 0), 6);
        t.allowed(x, "next(0, 7)", x.next(0, 7), 7);
        t.allowed(x, "next(6, 7), over a or over f", x.next(6, 7), 0);
        b.sentence(11, "-2 none, or it is there");
        t.allowed(x, "next(0, 1)", x.next(0, 1), -2);
        t.allowed(x, "next(2, 3), wet", x.next(2, 3), -2);
        t.allowed(x, "next(0, 0)", x.next(0, 0), -2);
        t.allowed(x, "next(1, 1), alone", x.next(1, 1), -2);
        b.sentence(11, "NONE: 1");
        for (int c : NO_CAVES) {
            t.refused(x, "next(" + c + ", 0)", x.next(c, 0), -1, 1);
            t.refused(x, "next(0, " + c + ")", x.next(0, c), -1, 1);
        }
    }

    private static String pair(int loud, int length) {
        return "well loud " + loud + " errs 0 drought 0;cave a deep;cave b deep;way a b long " + length + " dry";
    }

    private void hearers() {
        b.sentence(12, "A voice HEARS what is said in a cave that is no farther than loud from it, who is in a cave hears"
            + " a voice likewise");
        String both = ";voice v idle at a;folk f at b;folk g at a";
        WellVoice at = Checks.of(pair(7, 7) + both);
        t.allowed(at, "hearers(0), as far as loud", at.hearers(0), 3);
        WellVoice over = Checks.of(pair(7, 8) + both);
        t.allowed(over, "hearers(0), one farther", over.hearers(0), 2);
        WellVoice still = Checks.of(pair(0, 1) + both);
        t.allowed(still, "hearers(0), loud 0", still.hearers(0), 2);
        t.allowed(at, "flood(0)", at.flood(0));
        t.allowed(at, "hearers(0), no dry ways", at.hearers(0), 2);
        WellVoice loudest = Checks.of("well loud 99 errs 0 drought 0;cave a deep;cave b deep;voice v idle at a;folk f at b");
        t.allowed(loudest, "hearers(0), loud 99 and no way", loudest.hearers(0), 0);
        b.sentence(12, "Folk who hear a voice, as bits");
        WellVoice full = Checks.of(FULL);
        t.allowed(full, "hearers(2), all", full.hearers(2), 15);
        WellVoice none = Checks.of(ONE + ";voice v idle at a;voice w idle at a");
        t.allowed(none, "hearers(0), no folk", none.hearers(0), 0);
        b.sentence(12, "NONE: 1");
        for (int v : new int[] {-1, 3, 4, 32, Integer.MIN_VALUE, Integer.MAX_VALUE}) {
            t.refused(full, "hearers(" + v + ")", full.hearers(v), -1, 1);
        }
        WellVoice mute = Checks.of(ONE + ";folk f at a");
        t.refused(mute, "hearers(0), no voices", mute.hearers(0), -1, 1);
    }

    private void heardFrom() {
        b.sentence(13, "Caves in which a voice would hear what is said in one, as bits");
        WellVoice at = Checks.of(pair(7, 7));
        t.allowed(at, "heardFrom(0), as far as loud", at.heardFrom(0), 3);
        WellVoice over = Checks.of(pair(7, 8));
        t.allowed(over, "heardFrom(0), one farther", over.heardFrom(0), 1);
        WellVoice still = Checks.of(pair(0, 1));
        t.allowed(still, "heardFrom(1), loud 0", still.heardFrom(1), 2);
        WellVoice loud = Checks.of(EIGHT.replace("loud 5", "loud 99") + ";way a b long 20 dry;way b c long 20 dry"
            + ";way c d long 20 dry;way d e long 20 dry;way e f long 19 dry;way f g long 1 dry;way g h long 1 wet");
        t.allowed(loud, "heardFrom(0), loud 99", loud.heardFrom(0), 63);
        t.allowed(loud, "heardFrom(7)", loud.heardFrom(7), 128);
        b.sentence(13, "NONE: 1");
        for (int c : NO_CAVES) {
            t.refused(loud, "heardFrom(" + c + ")", loud.heardFrom(c), -1, 1);
        }
    }

    private void parts() {
        b.sentence(14, "In how many parts the caves are, from each to another one of which there are no dry ways");
        WellVoice one = Checks.of(ONE);
        t.allowed(one, "parts(), one cave", one.parts(), 1);
        WellVoice apart = Checks.of(EIGHT);
        t.allowed(apart, "parts(), no ways", apart.parts(), 8);
        WellVoice pair = Checks.of(pair(1, 1));
        t.allowed(pair, "parts(), a dry way", pair.parts(), 1);
        t.allowed(pair, "flood(0)", pair.flood(0));
        t.allowed(pair, "parts(), a wet way", pair.parts(), 2);
        WellVoice row = Checks.of(EIGHT + ";way h g long 1 dry;way g f long 1 dry;way f e long 1 dry;way e d long 1 dry"
            + ";way d c long 1 dry;way c b long 1 dry;way b a long 1 dry");
        t.allowed(row, "parts(), the longest row", row.parts(), 1);
        b.sentence(14, "NONE: 1 (no WELL)");
        WellVoice none = new WellVoice();
        t.refused(none, "parts()", none.parts(), -1, 1);
    }

    private void farthest() {
        b.sentence(15, "The cave farthest from one by dry ways, the first such");
        WellVoice x = Checks.of(EIGHT + ";way d b long 6 dry;way d c long 6 dry;way d e long 5 dry;way e f long 1 dry"
            + ";way d h long 20 wet;way a h long 1 dry");
        t.allowed(x, "farthest(3), three as far", x.farthest(3), 1);
        t.allowed(x, "farthest(4)", x.farthest(4), 1);
        t.allowed(x, "farthest(1)", x.farthest(1), 2);
        t.allowed(x, "farthest(7)", x.farthest(7), 0);
        b.sentence(15, "(itself, if there are none)");
        t.allowed(x, "farthest(6)", x.farthest(6), 6);
        WellVoice one = Checks.of(ONE);
        t.allowed(one, "farthest(0), one cave", one.farthest(0), 0);
        b.sentence(15, "NONE: 1");
        for (int c : NO_CAVES) {
            t.refused(x, "farthest(" + c + ")", x.farthest(c), -1, 1);
        }
    }

    private void neck() {
        b.sentence(16, "The cave without which (all its ways gone) most pairs of others lose all dry ways from one to the"
            + " other, the first such");
        WellVoice row = Checks.of(EIGHT + ";way c b long 1 dry;way b a long 1 dry");
        t.allowed(row, "neck() of three in a row", row.neck(), 1);
        WellVoice rows = Checks.of(EIGHT + ";way a c long 1 dry;way c b long 1 dry;way e h long 1 dry;way h f long 1 dry");
        t.allowed(rows, "neck(), two such", rows.neck(), 2);
        t.allowed(rows, "flood(0)", rows.flood(0));
        t.allowed(rows, "neck(), one such NOW", rows.neck(), 7);
        WellVoice zero = Checks.of(EIGHT + ";way b a long 1 dry;way a h long 1 dry");
        t.allowed(zero, "neck(), the first cave", zero.neck(), 0);
        WellVoice most = Checks.of(EIGHT + ";way a b long 1 dry;way b c long 1 dry;way h d long 1 dry;way h e long 1 dry"
            + ";way h f long 1 dry");
        t.allowed(most, "neck(), one pair by b and three by h", most.neck(), 7);
        // Two of three pairs by the end of a triangle: its own pairs do not count, nor those lost before.
        WellVoice ring = Checks.of(EIGHT + ";way a b long 1 dry;way b c long 1 dry;way c a long 1 dry;way c d long 1 dry");
        t.allowed(ring, "neck(), a triangle and a tail", ring.neck(), 2);
        b.sentence(16, "-2 if none lose them by any");
        WellVoice one = Checks.of(ONE);
        t.allowed(one, "neck(), one cave", one.neck(), -2);
        WellVoice pair = Checks.of(pair(1, 1));
        t.allowed(pair, "neck(), two caves", pair.neck(), -2);
        WellVoice apart = Checks.of(EIGHT);
        t.allowed(apart, "neck(), no ways", apart.neck(), -2);
        WellVoice round = Checks.of(EIGHT + ";way a b long 1 dry;way b c long 1 dry;way c a long 1 dry;way h g long 1 dry");
        t.allowed(round, "neck(), a triangle and a pair", round.neck(), -2);
        b.sentence(16, "NONE: 1 (no WELL)");
        WellVoice none = new WellVoice();
        t.refused(none, "neck()", none.neck(), -1, 1);
    }
}
