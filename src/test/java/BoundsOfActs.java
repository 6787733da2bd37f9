/** Promises 47 to 54: acts, undoing, images. */
final class BoundsOfActs {
    private static final String CAVES = "well loud 4 errs 0 drought 0;cave a mouth;cave b deep;cave c deep;cave d deep;cave e deep";
    private static final String TEXT = CAVES + ";way a b long 4 dry;way b c long 4 dry;way c d long 4 wet;voice v rover at a;voice w idle at a"
        + ";voice x bold at b;folk m at c;folk n at a";
    private static final String SIX = CAVES + ";way a b long 1 wet;way a c long 1 wet;way a d long 1 wet;way a e long 1 wet;way b c long 1 wet"
        + ";way b d long 1 dry;way b e long 1 dry;way c d long 1 dry;way c e long 1 dry;way d e long 1 dry";
    private static final int[] NO_CAVES = {-1, 5, 6, 8, 32, Integer.MIN_VALUE, Integer.MAX_VALUE};

    private final Bounds b;
    private final Checks t;

    BoundsOfActs(Bounds b) {
        this.b = b;
        t = b.t;
    }

    void run() {
        year();
        call();
        walk();
        dig();
        flood();
        undo();
        undoWraps();
        image();
        back();
    }

    private void year() {
        b.sentence(47, "YEAR: voices that go, as bits");
        WellVoice x = Checks.of(TEXT);
        t.allowed(x, "year()", x.year(), 5);
        WellVoice none = Checks.of(CAVES);
        t.allowed(none, "year(), no voices", none.year(), 0);
        t.due("size(10), it goes by all the same", none.size(10), 1);
        t.due("size(11), an ACT all the same", none.size(11), 1);
        WellVoice all = Checks.of(CAVES + ";way a b long 1 dry;voice v rover at a;voice w rover at b;voice x rover at a");
        t.allowed(all, "year(), all", all.year(), 7);
        b.sentence(47, "NONE: 1 (no WELL)");
        WellVoice no = new WellVoice();
        t.refused(no, "year()", no.year(), -1, 1);
        t.due("size(10)", no.size(10), 0);
        b.sentence(47, "3 (999 went by)");
        // These are more calls than an object is promised for; no fewer lead there.
        WellVoice old = Checks.of(CAVES + ";way a b long 1 dry;voice v rover at a");
        for (int i = 0; i < 998; i++) {
            old.year();
        }
        t.allowed(old, "year(), the 999th", old.year(), 1);
        t.due("size(10)", old.size(10), 999);
        t.refused(old, "year(), the 1000th", old.year(), -1, 3);
        t.due("size(10)", old.size(10), 999);
        t.due("voice(0, 1), it did not go", old.voice(0, 1), 1);
        t.due("size(11)", old.size(11), 16);
        t.allowed(old, "undo()", old.undo());
        t.allowed(old, "year(), the 999th again", old.year(), 1);
    }

    private void call() {
        b.sentence(48, "CALL: voices that go, as bits");
        WellVoice x = Checks.of(TEXT);
        t.allowed(x, "call(2), as far as loud or farther", x.call(2), 4);
        t.allowed(x, "call(4), nobody hears it", x.call(4), 0);
        t.due("size(11), an ACT all the same", x.size(11), 2);
        t.due("size(10), no year", x.size(10), 0);
        WellVoice none = Checks.of(CAVES);
        t.allowed(none, "call(0), no voices", none.call(0), 0);
        b.sentence(48, "NONE: 1");
        for (int c : NO_CAVES) {
            t.refused(x, "call(" + c + ")", x.call(c), -1, 1);
        }
        t.due("size(11)", x.size(11), 2);
        WellVoice no = new WellVoice();
        t.refused(no, "call(0) without a WELL", no.call(0), -1, 1);
    }

    private void walk() {
        b.sentence(49, "WALK: true; false: 1");
        WellVoice x = Checks.of(TEXT);
        t.allowed(x, "walk(1, 1), the last of the folk", x.walk(1, 1));
        t.due("folk(1)", x.folk(1), 1);
        t.due("folk(0), it stays", x.folk(0), 2);
        for (int f : new int[] {-1, 2, 3, 32, Integer.MIN_VALUE, Integer.MAX_VALUE}) {
            t.refused(x, "walk(" + f + ", 1)", x.walk(f, 1), 1);
        }
        for (int c : NO_CAVES) {
            t.refused(x, "walk(0, " + c + ")", x.walk(0, c), 1);
        }
        WellVoice none = Checks.of(CAVES);
        t.refused(none, "walk(0, 0), no folk", none.walk(0, 0), 1);
        b.sentence(49, "5 (no NEIGHBOUR)");
        t.refused(x, "walk(0, 2), it is there", x.walk(0, 2), 5);
        t.refused(x, "walk(0, 3), a wet way", x.walk(0, 3), 5);
        t.refused(x, "walk(0, 0), two ways away", x.walk(0, 0), 5);
        t.refused(x, "walk(0, 4), no way", x.walk(0, 4), 5);
        t.due("folk(0)", x.folk(0), 2);
        t.due("size(11), refused ones are no ACTS", x.size(11), 1);
        t.allowed(x, "dig(2)", x.dig(2));
        t.allowed(x, "walk(0, 3)", x.walk(0, 3));
    }

    private void dig() {
        b.sentence(50, "DIG: true; false: 1; 5 (it is dry)");
        WellVoice x = Checks.of(TEXT);
        t.refused(x, "dig(0), dry as told", x.dig(0), 5);
        t.allowed(x, "dig(2)", x.dig(2));
        t.due("way(2, 3)", x.way(2, 3), 0);
        t.due("far(0, 3)", x.far(0, 3), 12);
        t.refused(x, "dig(2), dry by now", x.dig(2), 5);
        for (int k : new int[] {-1, 3, 4, 32, 34, Integer.MIN_VALUE, Integer.MAX_VALUE}) {
            t.refused(x, "dig(" + k + ")", x.dig(k), 1);
        }
        t.due("size(11)", x.size(11), 1);
        WellVoice none = Checks.of(CAVES);
        t.refused(none, "dig(0), no ways", none.dig(0), 1);
        WellVoice six = Checks.of(SIX);
        for (int k = 0; k < 5; k++) {
            t.allowed(six, "dig(" + k + ")", six.dig(k));
        }
        t.refused(six, "dig(9), the last", six.dig(9), 5);
        t.due("cave(0, 1), all dry", six.cave(0, 1), 30);
    }

    private void flood() {
        b.sentence(51, "FLOOD: true; false: 1; 5 (it is wet); 3 (six are wet)");
        WellVoice x = Checks.of(SIX);
        t.refused(x, "flood(4), it is wet", x.flood(4), 5);
        t.allowed(x, "flood(9), the sixth", x.flood(9));
        t.due("way(9, 3)", x.way(9, 3), 1);
        for (int k = 5; k < 9; k++) {
            t.refused(x, "flood(" + k + "), six are wet", x.flood(k), 3);
            t.due("way(" + k + ", 3)", x.way(k, 3), 0);
        }
        t.refused(x, "flood(9), it is wet, and six are", x.flood(9), 5);
        for (int k : new int[] {-1, 10, 11, 32, 37, Integer.MIN_VALUE, Integer.MAX_VALUE}) {
            t.refused(x, "flood(" + k + ")", x.flood(k), 1);
        }
        t.due("size(11)", x.size(11), 1);
        t.allowed(x, "dig(0)", x.dig(0));
        t.allowed(x, "flood(5), room again", x.flood(5));
        t.refused(x, "flood(6)", x.flood(6), 3);
        WellVoice none = Checks.of(CAVES);
        t.refused(none, "flood(0), no ways", none.flood(0), 1);
    }

    private void undo() {
        b.sentence(52, "UNDO: true; false: 6");
        WellVoice x = Checks.of(TEXT);
        t.refused(x, "undo(), no ACT", x.undo(), 6);
        t.refused(x, "walk(0, 0)", x.walk(0, 0), 5);
        t.refused(x, "undo(), a refused ACT is none", x.undo(), 6);
        x.year();
        x.call(1);
        x.walk(0, 1);
        x.dig(2);
        x.flood(0);
        for (int left = 5; left > 0; left--) {
            t.due("size(11)", x.size(11), left);
            t.allowed(x, "undo()", x.undo());
        }
        t.refused(x, "undo(), none left", x.undo(), 6);
        t.due("size(10)", x.size(10), 0);
        t.due("voice(0, 1)", x.voice(0, 1), 0);
        t.due("voice(2, 2)", x.voice(2, 2), -2);
        t.due("folk(0)", x.folk(0), 2);
        t.due("way(2, 3)", x.way(2, 3), 1);
        t.due("far(0, 2)", x.far(0, 2), 8);
        WellVoice no = new WellVoice();
        t.refused(no, "undo() without a WELL", no.undo(), 6);
    }

    private void undoWraps() {
        b.sentence(52, "UNDO: the latest (16 are kept)");
        for (int acts : new int[] {15, 16, 17, 31, 32, 33, 50}) {
            WellVoice x = Checks.of(TEXT);
            for (int i = 0; i < acts; i++) {
                x.year();
            }
            int kept = Math.min(acts, 16);
            t.due("size(11) behind " + acts, x.size(11), kept);
            for (int i = 1; i <= kept; i++) {
                t.allowed(x, "undo()", x.undo());
                t.due("size(10)", x.size(10), acts - i);
                t.due("voice(0, 1)", x.voice(0, 1), Checks.of(TEXT).after(0, acts - i));
            }
            t.refused(x, "undo() behind " + kept, x.undo(), 6);
            t.due("size(10)", x.size(10), acts - kept);
            t.allowed(x, "year()", x.year() & 2, 0);
            t.allowed(x, "undo(), it is kept again", x.undo());
        }
        // To and fro over the end of what is kept.
        WellVoice x = Checks.of(TEXT);
        int years = 0;
        for (int round = 0; round < 12; round++) {
            for (int i = 0; i < 5; i++) {
                x.year();
            }
            for (int i = 0; i < 2; i++) {
                t.due("undo()", x.undo(), true);
            }
            years += 3;
            t.due("size(10)", x.size(10), years);
            t.due("voice(0, 1)", x.voice(0, 1), Checks.of(TEXT).after(0, years));
        }
    }

    private void image() {
        b.sentence(53, "An IMAGE: its number");
        WellVoice x = Checks.of(TEXT);
        t.allowed(x, "image()", x.image(), 0);
        t.allowed(x, "image(), nothing went by", x.image(), 1);
        t.due("size(11), no ACT", x.size(11), 0);
        b.sentence(53, "IMAGES: up to 3");
        t.due("size(12)", x.size(12), 2);
        t.allowed(x, "image(), the third", x.image(), 2);
        t.due("size(12)", x.size(12), 3);
        b.sentence(53, "NONE: 1 (no WELL); 3");
        x.year();
        t.refused(x, "image(), the fourth", x.image(), -1, 3);
        t.due("size(12)", x.size(12), 3);
        t.allowed(x, "back(2), it is as it was", x.back(2));
        t.due("size(10)", x.size(10), 0);
        t.refused(x, "image(), still no room", x.image(), -1, 3);
        WellVoice no = new WellVoice();
        t.refused(no, "image()", no.image(), -1, 1);
        t.due("size(12)", no.size(12), 0);
    }

    private void back() {
        b.sentence(54, "All is as by an IMAGE (all IMAGES stay): true");
        WellVoice x = Checks.of(TEXT);
        x.image();
        x.year();
        x.walk(0, 1);
        x.dig(2);
        x.image();
        x.year();
        x.flood(0);
        x.image();
        t.allowed(x, "back(0)", x.back(0));
        t.due("size(12)", x.size(12), 3);
        t.due("size(10)", x.size(10), 0);
        t.due("voice(0, 1)", x.voice(0, 1), 0);
        t.due("voice(0, 2)", x.voice(0, 2), -2);
        t.due("folk(0)", x.folk(0), 2);
        t.due("far(0, 3)", x.far(0, 3), -2);
        t.allowed(x, "back(2)", x.back(2));
        t.due("size(10)", x.size(10), 2);
        t.due("far(0, 1)", x.far(0, 1), -2);
        t.allowed(x, "back(1)", x.back(1));
        t.due("size(10)", x.size(10), 1);
        t.due("folk(0)", x.folk(0), 1);
        t.due("far(0, 3)", x.far(0, 3), 12);
        t.due("voice(0, 2)", x.voice(0, 2), 0);
        x.year();
        t.allowed(x, "back(1), the same again", x.back(1));
        t.due("size(10)", x.size(10), 1);
        b.sentence(54, "gone back to one, nothing can be undone");
        x.year();
        t.due("size(11)", x.size(11), 1);
        t.allowed(x, "back(1)", x.back(1));
        t.due("size(11)", x.size(11), 0);
        t.refused(x, "undo()", x.undo(), 6);
        for (int i = 0; i < 16; i++) {
            x.year();
        }
        t.due("size(11), kept again", x.size(11), 16);
        b.sentence(54, "false: 1");
        for (int image : new int[] {-1, 3, 4, 32, Integer.MIN_VALUE, Integer.MAX_VALUE}) {
            t.refused(x, "back(" + image + ")", x.back(image), 1);
        }
        t.due("size(11), refused ones change nothing", x.size(11), 16);
        WellVoice one = Checks.of(TEXT);
        t.refused(one, "back(0), none made", one.back(0), 1);
        one.image();
        t.allowed(one, "back(0)", one.back(0));
        t.refused(one, "back(1), one made", one.back(1), 1);
        WellVoice no = new WellVoice();
        t.refused(no, "back(0) without a WELL", no.back(0), 1);
    }
}
