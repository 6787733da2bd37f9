/** Promises 23 to 26, and CALLS: which voice goes, and whom calls at mouths bring where. */
final class BoundsOfCalls {
    private static final String EIGHT = "well loud 99 errs 0 drought 0;cave a deep;cave b deep;cave c deep;cave d deep"
        + ";cave e deep;cave f deep;cave g deep;cave h mouth";
    /** A row as long as can be heard, and its only mouth at the end. */
    private static final String ROW = EIGHT + Checks.ways(14, "ab bc cd de ef fg gh")
        + ";voice v shy at a;voice w idle at a;voice x rover at h";
    private static final int[] NO_VOICES = {-1, 3, 4, 32, Integer.MIN_VALUE, Integer.MAX_VALUE};
    private static final int[] NO_CAVES = {-1, 8, 9, 32, Integer.MIN_VALUE, Integer.MAX_VALUE};

    private final Bounds b;
    private final Checks t;

    BoundsOfCalls(Bounds b) {
        this.b = b;
        t = b.t;
    }

    void run() {
        called();
        bring();
        bringAt();
        reach();
    }

    private void called() {
        b.sentence(23, "A CALL at a cave: each voice but idle ones that HEARS it, and isn't there, goes to the first NEIGHBOUR, by"
            + " numbers, over which it is least far to that cave");
        String three = ";cave a mouth;cave b deep;cave c deep;cave d deep;way a b long 3 dry;way b c long 4 dry;way a d long 4 dry"
            + ";way d c long 3 dry;voice v bold at c;voice w idle at c;voice x rover at a";
        WellVoice at = Checks.of("well loud 7 errs 0 drought 0" + three);
        t.allowed(at, "called(0, 0), as far as loud, over b or over d", at.called(0, 0), 1);
        t.allowed(at, "called(1, 0), idle", at.called(1, 0), 2);
        t.allowed(at, "called(2, 0), it is there", at.called(2, 0), 0);
        t.allowed(at, "called(2, 2)", at.called(2, 2), 1);
        t.allowed(at, "call(0)", at.call(0), 1);
        WellVoice over = Checks.of("well loud 6 errs 0 drought 0" + three);
        t.allowed(over, "called(0, 0), farther than loud", over.called(0, 0), 2);
        t.allowed(over, "call(0)", over.call(0), 0);
        WellVoice still = Checks.of("well loud 0 errs 0 drought 0" + three);
        t.allowed(still, "called(0, 0), loud 0", still.called(0, 0), 2);
        WellVoice alone = Checks.of("well loud 99 errs 0 drought 0;cave a mouth;cave b deep;voice v bold at b");
        t.allowed(alone, "called(0, 0), no dry ways", alone.called(0, 0), 1);
        WellVoice shy = Checks.of("well loud 9 errs 0 drought 0;cave a mouth;cave b deep;way a b long 9 dry;voice v shy at b"
            + ";folk m at a");
        t.allowed(shy, "called(0, 0), shy all the same", shy.called(0, 0), 0);
        b.sentence(23, "NONE: 1");
        WellVoice x = Checks.of(ROW);
        for (int v : NO_VOICES) {
            t.refused(x, "called(" + v + ", 0)", x.called(v, 0), -1, 1);
        }
        for (int c : NO_CAVES) {
            t.refused(x, "called(0, " + c + ")", x.called(0, c), -1, 1);
        }
    }

    private void bring() {
        b.sentence(24, "BRING: the fewest CALLS, at mouths alone, behind which a voice is in a cave");
        WellVoice x = Checks.of(ROW);
        for (int c = 0; c < 8; c++) {
            t.allowed(x, "bring(0, " + c + ")", x.bring(0, c), c);
        }
        t.allowed(x, "bring(1, 0), idle and there", x.bring(1, 0), 0);
        t.allowed(x, "bring(2, 7), there", x.bring(2, 7), 0);
        b.sentence(24, "-2 it can't be");
        t.allowed(x, "bring(1, 1), idle", x.bring(1, 1), -2);
        t.allowed(x, "bring(2, 6), no mouth behind it", x.bring(2, 6), -2);
        t.allowed(x, "flood(6)", x.flood(6));
        t.allowed(x, "bring(0, 1), no mouth in reach", x.bring(0, 1), -2);
        WellVoice far = Checks.of(ROW.replace("loud 99", "loud 97"));
        t.allowed(far, "bring(0, 1), too far to hear", far.bring(0, 1), -2);
        WellVoice near = Checks.of(ROW.replace("loud 99", "loud 98"));
        t.allowed(near, "bring(0, 7), just to hear", near.bring(0, 7), 7);
        WellVoice deep = Checks.of(ROW.replace("mouth", "deep"));
        t.allowed(deep, "bring(0, 1), no mouths", deep.bring(0, 1), -2);
        t.allowed(deep, "bring(0, 0), no mouths, there", deep.bring(0, 0), 0);
        b.sentence(24, "NONE: 1");
        for (int v : NO_VOICES) {
            t.refused(x, "bring(" + v + ", 0)", x.bring(v, 0), -1, 1);
        }
        for (int c : NO_CAVES) {
            t.refused(x, "bring(0, " + c + ")", x.bring(0, c), -1, 1);
        }
    }

    private void bringAt() {
        b.sentence(25, "of like ones the first row by caves (no YEAR between; others no matter)");
        // From d the calls at a, at b and at h all lead to c; b is then reached by a call at a or at b.
        WellVoice like = Checks.of("well loud 99 errs 0 drought 0;cave a mouth;cave b mouth;cave c deep;cave d deep;cave e mouth"
            + ";way d c long 1 dry;way c b long 1 dry;way b a long 1 dry;way c e long 1 dry;voice v rover at d;voice w rover at a");
        t.allowed(like, "bring(0, 0)", like.bring(0, 0), 3);
        t.allowed(like, "bringAt(0, 0, 0)", like.bringAt(0, 0, 0), 0);
        t.allowed(like, "bringAt(0, 0, 1)", like.bringAt(0, 0, 1), 0);
        t.allowed(like, "bringAt(0, 0, 2)", like.bringAt(0, 0, 2), 0);
        t.allowed(like, "bringAt(0, 4, 0)", like.bringAt(0, 4, 0), 0);
        t.allowed(like, "bringAt(0, 4, 1)", like.bringAt(0, 4, 1), 4);
        t.allowed(like, "bringAt(1, 4, 0), the first that leads there", like.bringAt(1, 4, 0), 1);
        t.allowed(like, "bringAt(1, 4, 1)", like.bringAt(1, 4, 1), 4);
        b.sentence(25, "NONE: 1 (i, too; it can't be)");
        WellVoice x = Checks.of(ROW);
        t.allowed(x, "bringAt(0, 7, 0)", x.bringAt(0, 7, 0), 7);
        t.allowed(x, "bringAt(0, 7, 6), the last", x.bringAt(0, 7, 6), 7);
        for (int i : new int[] {-1, 7, 8, 32, Integer.MIN_VALUE, Integer.MAX_VALUE}) {
            t.refused(x, "bringAt(0, 7, " + i + ")", x.bringAt(0, 7, i), -1, 1);
        }
        t.refused(x, "bringAt(0, 0, 0), it is there", x.bringAt(0, 0, 0), -1, 1);
        t.refused(x, "bringAt(0, 0, -1)", x.bringAt(0, 0, -1), -1, 1);
        t.refused(x, "bringAt(1, 7, 0), it can't be", x.bringAt(1, 7, 0), -1, 1);
        t.refused(x, "bringAt(2, 6, 0), it can't be", x.bringAt(2, 6, 0), -1, 1);
        for (int v : NO_VOICES) {
            t.refused(x, "bringAt(" + v + ", 7, 0)", x.bringAt(v, 7, 0), -1, 1);
        }
        for (int c : NO_CAVES) {
            t.refused(x, "bringAt(0, " + c + ", 0)", x.bringAt(0, c, 0), -1, 1);
        }
    }

    private void reach() {
        b.sentence(26, "Caves to which a voice can be brought, as bits");
        WellVoice x = Checks.of(ROW);
        t.allowed(x, "reach(0), all", x.reach(0), 255);
        t.allowed(x, "reach(1), idle", x.reach(1), 1);
        t.allowed(x, "reach(2), where it is", x.reach(2), 128);
        WellVoice first = Checks.of("well loud 1 errs 0 drought 0;cave a mouth;cave b deep;cave c deep" + Checks.ways(1, "ab bc")
            + ";voice v bold at b;voice w bold at c");
        t.allowed(first, "reach(0), by the first mouth", first.reach(0), 3);
        t.allowed(first, "reach(1), it does not hear", first.reach(1), 4);
        WellVoice far = Checks.of(ROW.replace("loud 99", "loud 97"));
        t.allowed(far, "reach(0), too far to hear", far.reach(0), 1);
        WellVoice deep = Checks.of(ROW.replace("mouth", "deep"));
        t.allowed(deep, "reach(0), no mouths", deep.reach(0), 1);
        b.sentence(26, "NONE: 1");
        for (int v : NO_VOICES) {
            t.refused(x, "reach(" + v + ")", x.reach(v), -1, 1);
        }
    }
}
