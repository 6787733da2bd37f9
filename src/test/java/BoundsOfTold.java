/** Promises 55 to 57, and TROUBLE: what is told of the object. */
final class BoundsOfTold {
    private static final String TEXT = "well loud 3 errs 4 drought 5;cave a mouth;cave b deep;cave c deep;way a b long 3 dry;way b c long 4 dry"
        + ";voice v idle at a;voice w rover at c;voice x idle at b;folk m at a";

    private final Bounds b;
    private final Checks t;

    BoundsOfTold(Bounds b) {
        this.b = b;
        t = b.t;
    }

    void run() {
        led();
        size();
        trouble();
        callsWithoutNumber();
    }

    private void led() {
        b.sentence(55, "The i-th voice, by numbers, that nobody hears");
        WellVoice x = Checks.of(TEXT);
        t.due("led(0), one farther than loud", x.led(0), 1);
        WellVoice all = Checks.of(TEXT.replace(";folk m at a", ""));
        for (int i = 0; i < 3; i++) {
            t.due("led(" + i + "), no folk", all.led(i), i);
        }
        WellVoice two = Checks.of(TEXT.replace("loud 3", "loud 2"));
        t.due("led(0)", two.led(0), 1);
        t.due("led(1)", two.led(1), 2);
        b.sentence(55, "NoSuchElementException if there is none such");
        for (int i : new int[] {-1, 1, 2, 3, 32, Integer.MIN_VALUE, Integer.MAX_VALUE}) {
            t.due("led(" + i + ") throws", Checks.ledThrows(x, i), true);
        }
        t.due("led(3) throws", Checks.ledThrows(all, 3), true);
        t.due("led(2) throws", Checks.ledThrows(two, 2), true);
        WellVoice heard = Checks.of(TEXT.replace("loud 3", "loud 7"));
        t.due("led(0) throws, all are heard", Checks.ledThrows(heard, 0), true);
        t.due("led(0) throws, no voices", Checks.ledThrows(Checks.of("well loud 0 errs 0 drought 0;cave a deep"), 0), true);
        t.due("led(0) throws, no WELL", Checks.ledThrows(new WellVoice(), 0), true);
    }

    private void size() {
        b.sentence(56, "0 loud, 1 errs, 2 drought, 3 caves, 4 ways, 5 voices, 6 folk, 7 echoes, 8 unsure ways, 9 talk, 10 years gone by, 11 ACTS that"
            + " can be undone, 12 IMAGES, 13 bytes of THE TAPE");
        WellVoice x = Checks.of("well loud 99 errs 100 drought 100;cave a deep;cave b deep;cave c deep;cave d deep;cave e deep;cave f deep"
            + ";cave g deep;cave h deep" + Checks.ways(1, "ab bc cd de ef fg gh ha ac ad")
            + ";voice i idle at a;voice j idle at a;voice k idle at a;folk m at a;folk n at a;folk o at a;folk p at a"
            + ";echo a after 400;echo b after 0;echo c after 0;echo d after 0;unsure a b;unsure b c;unsure c d;unsure d e"
            + ";talk a b lost;talk a b lost;talk a b lost;talk a b lost;talk a b lost");
        for (int i = 0; i < 17; i++) {
            x.year();
        }
        x.image();
        x.image();
        x.image();
        Checks.feed(x, " ".repeat(900));
        int[] full = {99, 100, 100, 8, 10, 3, 4, 4, 4, 5, 17, 16, 3, 900};
        for (int what = 0; what < full.length; what++) {
            t.due("size(" + what + "), all full", x.size(what), full[what]);
        }
        b.sentence(56, "NONE for others");
        for (int what : new int[] {-1, 14, 15, 32, Integer.MIN_VALUE, Integer.MAX_VALUE}) {
            t.due("size(" + what + ")", x.size(what), -1);
            t.due("size(" + what + ") without a WELL", new WellVoice().size(what), -1);
        }
        b.sentence(56, "0 for what there isn't");
        for (int what = 0; what <= 13; what++) {
            t.due("size(" + what + ") without a WELL", new WellVoice().size(what), 0);
            t.due("size(" + what + "), nothing but a cave", Checks.of("well loud 0 errs 0 drought 0;cave a deep").size(what), what == 3 ? 1 : 0);
        }
    }

    private void trouble() {
        b.sentence(57, "TROUBLE of the latest call that may be refused");
        WellVoice x = new WellVoice();
        t.due("trouble() of a new object", x.trouble(), 0);
        t.refused(x, "cave(0, 0)", x.cave(0, 0), -1, 1);
        t.refused(x, "well(1)", x.well(1), -1, 2);
        t.refused(x, "well(0)", x.well(0), -1, 4);
        t.refused(x, "undo()", x.undo(), 6);
        t.allowed(x, "well()", Checks.tell(x, TEXT), 3);
        b.sentence(57, "0 it wasn't; 1 there is none such; 2 a number; 3 no room; 4 a FAULT; 5 not so; 6 there is none");
        for (int i = 0; i < 3; i++) {
            t.allowed(x, "image()", x.image(), i);
        }
        t.refused(x, "image()", x.image(), -1, 3);
        t.refused(x, "dig(0)", x.dig(0), 5);
        t.refused(x, "undo()", x.undo(), 6);
        t.refused(x, "after(0, 61)", x.after(0, 61), -1, 2);
        t.refused(x, "well(0)", x.well(0), -1, 4);
        t.refused(x, "back(3)", x.back(3), 1);
        t.allowed(x, "far(0, 0)", x.far(0, 0), 0);
        t.refused(x, "back(3)", x.back(3), 1);
        t.allowed(x, "bring(0, 1), -2 is no refusal", x.bring(0, 1), -2);
        for (int i = 0; i < 8; i++) {
            t.refused(x, "folk(9)", x.folk(9), -1, 1);
            t.due("call " + i + " behind a refused one", notRefused(x, i), true);
            t.due("trouble() behind call " + i, x.trouble(), 0);
        }
        b.sentence(57, "The constants: `NONE = -1`: There is none; refused");
        t.due("NONE", WellVoice.NONE, -1);
    }

    private static boolean notRefused(WellVoice x, int call) {
        switch (call) {
            case 0:
                return x.odds(0, true) > 0;
            case 1:
                return x.within(0, 0, 0, true) > 0;
            case 2:
                return x.mean(0, true) > 0;
            case 3:
                return x.answers(0, true, true, true) == 2;
            case 4:
                return x.rests(0) == 1;
            case 5:
                return x.rest(9) == 11;
            case 6:
                return x.flood(0);
            default:
                return x.undo();
        }
    }

    private void callsWithoutNumber() {
        b.sentence(57, "(those of which a number is told here)");
        for (int trouble : new int[] {0, 1, 2, 5}) {
            WellVoice x = Checks.of(TEXT);
            if (trouble == 1) {
                x.folk(9);
            } else if (trouble == 2) {
                x.after(0, 61);
            } else if (trouble == 5) {
                x.dig(0);
            }
            t.due("trouble()", x.trouble(), trouble);
            Checks.feed(x, " ".repeat(920));
            t.due("trouble() behind feed()", x.trouble(), trouble);
            x.fault();
            x.where();
            x.size(0);
            x.size(-1);
            t.due("trouble() behind fault(), where() and size()", x.trouble(), trouble);
            x.led(0);
            t.due("led(9) throws", Checks.ledThrows(x, 9), true);
            t.due("trouble() behind led()", x.trouble(), trouble);
            t.due("trouble() behind itself", x.trouble(), trouble);
        }
    }
}
