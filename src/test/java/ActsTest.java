/** Promises 47 to 54: years, calls, walks, ways dug and flooded, undoing, images. */
public final class ActsTest {
    private static final Checks t = new Checks();
    private static final String TEXT = "well loud 4 errs 0 drought 0;cave a mouth;cave b deep;cave c deep;cave d deep"
        + ";way a b long 2 dry;way b c long 2 dry;way c d long 9 dry;way a d long 1 wet;voice v rover at b"
        + ";voice w shy at c;voice x bold at d;folk f at a;folk g at b";

    public static void main(String[] args) {
        year();
        call();
        walk();
        digAndFlood();
        undo();
        images();
        withoutWell();
        t.finish("ActsTest");
    }

    private static void year() {
        WellVoice x = Checks.of(TEXT);
        t.allowed(x, "year()", x.year(), 7);
        t.due("voice(0, 1)", x.voice(0, 1), 0);
        t.due("voice(1, 1)", x.voice(1, 1), 3);
        t.due("voice(2, 1)", x.voice(2, 1), 2);
        t.due("voice(1, 2)", x.voice(1, 2), 2);
        t.due("size(10)", x.size(10), 1);
        t.allowed(x, "year(), one stays", x.year(), 5);
        t.due("voice(1, 2), from the last year in which it went", x.voice(1, 2), 2);
        t.due("size(11)", x.size(11), 2);
        WellVoice idle = Checks.of("well loud 4 errs 0 drought 0;cave a mouth;voice v idle at a");
        t.allowed(idle, "year(), none goes", idle.year(), 0);
        t.due("size(10), it went by", idle.size(10), 1);
        t.due("size(11), it can be undone", idle.size(11), 1);
        manyYears();
    }

    /** More calls than an object is promised for, so that 999 years can go by. */
    private static void manyYears() {
        WellVoice x = Checks.of("well loud 4 errs 0 drought 0;cave a mouth;voice v idle at a");
        for (int i = 0; i < 999; i++) {
            x.year();
        }
        t.due("size(10)", x.size(10), 999);
        t.refused(x, "year() behind 999", x.year(), -1, 3);
        t.due("size(10)", x.size(10), 999);
        t.due("size(11)", x.size(11), 16);
    }

    private static void call() {
        WellVoice x = Checks.of(TEXT);
        // b is 2 from a and c 4, as far as loud; d is too far.
        t.allowed(x, "call(0)", x.call(0), 3);
        t.due("voice(0, 1)", x.voice(0, 1), 0);
        t.due("voice(0, 2)", x.voice(0, 2), 1);
        t.due("voice(1, 1)", x.voice(1, 1), 1);
        t.due("voice(2, 2), it did not go", x.voice(2, 2), -2);
        t.due("size(10), no year", x.size(10), 0);
        t.allowed(x, "call(0) again, one is there", x.call(0), 2);
        t.allowed(x, "call(0), both are there", x.call(0), 0);
        t.due("size(11), an act all the same", x.size(11), 3);
        t.allowed(x, "call(2), at a deep cave", x.call(2), 3);
        t.due("voice(0, 2), from the call", x.voice(0, 2), 0);
        t.allowed(x, "year(), but the cave it came from by a call", x.year() & 1, 1);
        t.due("voice(0, 1), to c", x.voice(0, 1), 2);
        t.refused(x, "call(4)", x.call(4), -1, 1);
        t.refused(x, "call(-1)", x.call(-1), -1, 1);
        WellVoice idle = Checks.of("well loud 4 errs 0 drought 0;cave a mouth;cave b deep;way a b long 1 dry"
            + ";voice v idle at a");
        t.allowed(idle, "call(1), idle", idle.call(1), 0);
    }

    private static void walk() {
        WellVoice x = Checks.of(TEXT);
        t.allowed(x, "walk(0, 1)", x.walk(0, 1));
        t.due("folk(0)", x.folk(0), 1);
        t.refused(x, "walk(0, 1), it is there", x.walk(0, 1), 5);
        t.refused(x, "walk(0, 3), no neighbour", x.walk(0, 3), 5);
        t.allowed(x, "walk(0, 0)", x.walk(0, 0));
        t.refused(x, "walk(0, 3), a wet way", x.walk(0, 3), 5);
        t.refused(x, "walk(2, 0)", x.walk(2, 0), 1);
        t.refused(x, "walk(-1, 0)", x.walk(-1, 0), 1);
        t.refused(x, "walk(0, 4)", x.walk(0, 4), 1);
        t.refused(x, "walk(0, -1)", x.walk(0, -1), 1);
        t.due("size(11)", x.size(11), 2);
        t.due("folk(1)", x.folk(1), 1);
    }

    private static void digAndFlood() {
        WellVoice x = Checks.of(TEXT);
        t.refused(x, "dig(0), it is dry", x.dig(0), 5);
        t.refused(x, "flood(3), it is wet", x.flood(3), 5);
        t.allowed(x, "dig(3)", x.dig(3));
        t.due("far(0, 3)", x.far(0, 3), 1);
        t.refused(x, "dig(3) again", x.dig(3), 5);
        t.allowed(x, "flood(0)", x.flood(0));
        t.due("far(0, 1)", x.far(0, 1), 12);
        t.refused(x, "dig(4)", x.dig(4), 1);
        t.refused(x, "dig(-1)", x.dig(-1), 1);
        t.refused(x, "flood(4)", x.flood(4), 1);
        t.refused(x, "flood(-1)", x.flood(-1), 1);
        t.due("size(11)", x.size(11), 2);
        WellVoice six = Checks.of("well loud 4 errs 0 drought 0;cave a mouth;cave b deep;cave c deep;cave d deep"
            + ";cave e deep;way a b long 1 wet;way a c long 1 wet;way a d long 1 wet;way a e long 1 wet"
            + ";way b c long 1 wet;way b d long 1 dry;way b e long 1 dry");
        t.allowed(six, "flood(5), the sixth", six.flood(5));
        t.refused(six, "flood(6), six are wet", six.flood(6), 3);
        t.refused(six, "flood(0), it is wet ahead of that", six.flood(0), 5);
        t.allowed(six, "dig(0)", six.dig(0));
        t.allowed(six, "flood(6)", six.flood(6));
    }

    private static void undo() {
        WellVoice x = Checks.of(TEXT);
        t.refused(x, "undo() at first", x.undo(), 6);
        x.year();
        x.call(0);
        x.walk(1, 2);
        x.dig(3);
        x.flood(1);
        t.due("size(11)", x.size(11), 5);
        t.allowed(x, "undo() of flood", x.undo());
        t.due("way(1, 3)", x.way(1, 3), 0);
        t.due("far(1, 2)", x.far(1, 2), 2);
        t.allowed(x, "undo() of dig", x.undo());
        t.due("way(3, 3)", x.way(3, 3), 1);
        t.due("far(0, 3)", x.far(0, 3), 13);
        t.allowed(x, "undo() of walk", x.undo());
        t.due("folk(1)", x.folk(1), 1);
        t.allowed(x, "undo() of call", x.undo());
        t.due("voice(2, 1)", x.voice(2, 1), 2);
        t.due("size(10)", x.size(10), 1);
        t.allowed(x, "undo() of year", x.undo());
        t.due("size(10)", x.size(10), 0);
        t.due("voice(0, 1)", x.voice(0, 1), 1);
        t.due("voice(0, 2)", x.voice(0, 2), -2);
        t.refused(x, "undo() of no more", x.undo(), 6);
        sixteen();
    }

    private static void sixteen() {
        WellVoice x = Checks.of(TEXT);
        for (int i = 0; i < 20; i++) {
            x.year();
        }
        t.due("size(11), 16 are kept", x.size(11), 16);
        for (int i = 0; i < 3; i++) {
            x.undo();
        }
        x.year();
        t.due("size(11)", x.size(11), 14);
        for (int i = 0; i < 14; i++) {
            t.allowed(x, "undo()", x.undo());
        }
        t.refused(x, "undo() of the 17th", x.undo(), 6);
        t.due("size(10)", x.size(10), 4);
        WellVoice same = Checks.of(TEXT);
        t.due("voice(0, 1), as behind 4 years", x.voice(0, 1), same.after(0, 4));
    }

    private static void images() {
        WellVoice x = Checks.of(TEXT);
        t.refused(x, "back(0)", x.back(0), 1);
        t.allowed(x, "image()", x.image(), 0);
        x.year();
        x.dig(3);
        x.walk(0, 3);
        t.allowed(x, "image() again", x.image(), 1);
        t.due("size(12)", x.size(12), 2);
        t.due("size(11), images are no acts", x.size(11), 3);
        t.allowed(x, "back(0)", x.back(0));
        t.due("size(10)", x.size(10), 0);
        t.due("size(11), nothing can be undone", x.size(11), 0);
        t.refused(x, "undo()", x.undo(), 6);
        t.due("far(0, 3)", x.far(0, 3), 13);
        t.due("folk(0)", x.folk(0), 0);
        t.due("voice(0, 2)", x.voice(0, 2), -2);
        t.allowed(x, "flood(0)", x.flood(0));
        t.allowed(x, "undo(), behind it acts are kept again", x.undo());
        t.allowed(x, "back(1), all stay", x.back(1));
        t.due("size(10)", x.size(10), 1);
        t.due("far(0, 3)", x.far(0, 3), 1);
        t.due("folk(0)", x.folk(0), 3);
        t.due("voice(0, 2)", x.voice(0, 2), 1);
        t.allowed(x, "image(), the third", x.image(), 2);
        t.refused(x, "image(), no room", x.image(), -1, 3);
        t.due("size(12)", x.size(12), 3);
        t.refused(x, "back(3)", x.back(3), 1);
        t.refused(x, "back(-1)", x.back(-1), 1);
    }

    private static void withoutWell() {
        WellVoice x = new WellVoice();
        t.refused(x, "year()", x.year(), -1, 1);
        t.refused(x, "call(0)", x.call(0), -1, 1);
        t.refused(x, "walk(0, 0)", x.walk(0, 0), 1);
        t.refused(x, "dig(0)", x.dig(0), 1);
        t.refused(x, "flood(0)", x.flood(0), 1);
        t.refused(x, "undo()", x.undo(), 6);
        t.refused(x, "image()", x.image(), -1, 1);
        t.refused(x, "back(0)", x.back(0), 1);
    }
}
