/** Terms I and promises 1 to 5: THE TAPE, its TOKENS, the LINES of a WELL and their FAULTS. */
final class BoundsOfText {
    private static final String HEAD = "well loud 5 errs 5 drought 5";
    private static final String TWO = HEAD + ";cave a mouth;cave b deep";
    private static final String JOINED = TWO + ";way a b long 2 dry";
    private static final String EIGHT = HEAD + ";cave a deep;cave b deep;cave c deep;cave d deep;cave e deep"
        + ";cave f deep;cave g deep;cave h deep";
    private static final String[] LINES = {"well", "cave", "way", "voice", "folk", "echo", "unsure", "talk"};

    private final Bounds b;
    private final Checks t;

    BoundsOfText(Bounds b) {
        this.b = b;
        t = b.t;
    }

    void run() {
        newObject();
        callsOfAnObject();
        tapeFillsUp();
        tapeIsFull();
        bytesInTheirOrder();
        tokens();
        wholes();
        lines();
        ways();
        others();
        names();
        leastFault();
        form();
        untold();
        again();
        outOfBounds();
        many();
        lacks();
        noWay();
        firstBytes();
        tapeStays();
        wellStays();
        newWell();
        faultAndWhere();
    }

    private void newObject() {
        b.sentence(1, "`WellVoice()`: No WELL.");
        WellVoice x = new WellVoice();
        t.due("trouble()", x.trouble(), 0);
        t.due("fault()", x.fault(), 0);
        t.due("where()", x.where(), -1);
        t.due("size(3)", x.size(3), 0);
        t.refused(x, "cave(0, 0)", x.cave(0, 0), -1, 1);
        t.refused(x, "parts()", x.parts(), -1, 1);
        t.refused(x, "year()", x.year(), -1, 1);
        t.refused(x, "undo()", x.undo(), 6);
    }

    private void callsOfAnObject() {
        b.sentence(1, "An object is used for at most 512 calls after it has been made");
        String text = JOINED + ";voice v rover at a";
        WellVoice x = new WellVoice();
        int fed = (text.length() + 19) / 20;
        t.due("well()", Checks.tell(x, text), 2);
        for (int calls = fed + 1; calls < 508; calls++) {
            x.year();
        }
        t.due("size(10)", x.size(10), 507 - fed);
        t.due("voice(0, 1)", x.voice(0, 1), (507 - fed) % 2);
        t.due("size(11)", x.size(11), 16);
        t.due("undo(), the 512th call", x.undo(), true);
    }

    private void tapeFillsUp() {
        b.sentence(2, "how many it has");
        WellVoice x = new WellVoice();
        t.due("size(13), empty", x.size(13), 0);
        for (int i = 1; i <= 45; i++) {
            t.due("feed() " + i, x.feed(0, -1, Integer.MIN_VALUE, Integer.MAX_VALUE, 1), 20 * i);
            t.due("size(13)", x.size(13), 20 * i);
        }
        b.sentence(2, "THE TAPE has 900 bytes");
        String full = EIGHT + " ".repeat(900 - EIGHT.length() - 12) + ";folk q at h";
        x = new WellVoice();
        Checks.feed(x, full);
        t.due("size(13)", x.size(13), 900);
        t.allowed(x, "well(900)", x.well(900), 8);
        t.due("folk(0), told by the last bytes", x.folk(0), 7);
    }

    private void tapeIsFull() {
        b.sentence(2, "NONE, and none comes, if there would be more than 900");
        String full = EIGHT + " ".repeat(900 - EIGHT.length() - 12) + ";folk q at h";
        WellVoice x = new WellVoice();
        Checks.feed(x, full);
        t.due("feed()", x.feed(0, 0, 0, 0, 0), -1);
        t.due("size(13)", x.size(13), 900);
        t.due("feed() again", x.feed(-1, -1, -1, -1, -1), -1);
        t.due("trouble(), feed() has no number", x.trouble(), 0);
        t.allowed(x, "well(900), none came", x.well(900), 8);
        t.due("feed() behind it", x.feed(0, 0, 0, 0, 0), 20);
    }

    private void bytesInTheirOrder() {
        b.sentence(2, "Twenty bytes come behind THE TAPE, of each number the highest first");
        for (int i = 0; i < 40; i++) {
            WellVoice x = new WellVoice();
            Checks.feed(x, " ".repeat(i) + (char) (i % 2 == 0 ? 255 : 128) + " ".repeat(39 - i));
            t.refused(x, "well(40)", x.well(40), -1, 4);
            t.due("where() of byte " + i, x.where(), i);
        }
    }

    private void tokens() {
        b.sentence(3, "blanks, 32, part TOKENS and mean nothing else");
        b.fault(0, "    well   loud 5 errs 5 drought 5  ;  cave   a   mouth   ;cave b deep    ");
        b.fault(0, "well loud5errs5drought5;cave a deep");
        b.fault(1, "^we ll loud 5 errs 5 drought 5;cave a deep");
        b.fault(1, "well loud 1 ^1 errs 5 drought 5;cave a deep");
        for (int sign = 0; sign < 256; sign++) {
            if (sign != ' ' && sign != ';' && sign != '^') {
                b.fault(1, HEAD + " ^" + (char) sign + ";cave a deep");
            }
        }
        b.sentence(3, "WORDS of 1 to 8 small letters that stand together");
        b.fault(0, HEAD + ";cave z deep;cave abcdefgh deep;way z abcdefgh long 1 dry");
        b.fault(1, HEAD + ";cave ^abcdefghi deep");
        b.fault(1, HEAD + ";cave ^" + "a".repeat(90) + " deep");
        b.fault(1, HEAD + ";cave ^A deep");
        b.fault(1, HEAD + ";cave ^Z deep");
        b.fault(1, HEAD + ";cave a^B deep");
        b.fault(1, HEAD + ";cave a^` deep");
        b.fault(1, HEAD + ";cave a^{ deep");
        b.fault(0, HEAD + ";cave abcdefga deep;cave abcdefgb deep;cave abcdefg deep;cave bbcdefga deep");
    }

    private void wholes() {
        b.sentence(3, "WHOLES of 1 to 3 digits that do");
        b.fault(0, "well loud 5 errs 05 drought 005;cave a deep");
        b.fault(1, "well loud ^0005 errs 5 drought 5;cave a deep");
        b.fault(1, "well loud ^1234567890123456789012345 errs 5 drought 5;cave a deep");
        b.fault(1, "well loud ^/ errs 5 drought 5;cave a deep");
        b.fault(1, "well loud 5^: errs 5 drought 5;cave a deep");
        b.fault(1, "well loud ^-5 errs 5 drought 5;cave a deep");
        WellVoice x = Checks.of("well loud 09 errs 090 drought 009;cave a deep");
        t.due("size(0)", x.size(0), 9);
        t.due("size(1)", x.size(1), 90);
        t.due("size(2)", x.size(2), 9);
        b.sentence(3, "single ones of ;");
        b.fault(1, HEAD + ";^;cave a deep");
        b.fault(1, HEAD + ";cave a deep;^");
        b.fault(1, "^;" + TWO);
        b.fault(1, HEAD + "^:cave a deep");
        b.fault(1, HEAD + "^,cave a deep");
        b.fault(1, HEAD + "^<cave a deep");
    }

    private void lines() {
        b.sentence(3, "well loud WHOLE errs WHOLE drought WHOLE (0 .. 99; 0 .. 100 in a hundred each), ahead of all others");
        b.fault(0, "well loud 0 errs 0 drought 0;cave a deep");
        b.fault(0, "well loud 99 errs 100 drought 100;cave a deep");
        b.fault(4, "well loud ^100 errs 0 drought 0;cave a deep");
        b.fault(4, "well loud 99 errs ^101 drought 0;cave a deep");
        b.fault(4, "well loud 99 errs 100 drought ^101;cave a deep");
        b.fault(4, "well loud 99 errs 100 drought ^999;cave a deep");
        b.fault(6, "^cave a deep;" + HEAD);
        b.sentence(3, "cave NAME SORT (SORT: mouth, or deep; up to 8)");
        b.fault(0, EIGHT);
        b.fault(0, EIGHT.replace("deep", "mouth"));
        b.fault(5, EIGHT + ";^cave i deep");
        b.fault(1, HEAD + ";cave a ^shallow");
    }

    private void ways() {
        b.sentence(3, "way CAVE CAVE long WHOLE STATE (unlike; once in whatever order; 1 .. 20; STATE: dry, or wet;"
            + " up to 10, up to 6 of them wet)");
        b.fault(3, TWO + ";way a ^a long 2 dry");
        b.fault(3, JOINED + ";way a ^b long 2 dry");
        b.fault(3, JOINED + ";way b ^a long 2 wet");
        b.fault(0, TWO + ";way a b long 1 dry");
        b.fault(0, TWO + ";way a b long 20 wet");
        b.fault(4, TWO + ";way a b long ^0 dry");
        b.fault(4, TWO + ";way a b long ^21 dry");
        b.fault(1, TWO + ";way a b long 2 ^damp");
        b.fault(0, tenWays(6));
        b.fault(5, tenWays(6) + ";^way g h long 1 dry");
        b.fault(0, tenWays(0));
        b.fault(5, tenWays(7).replace("way a h long 1 wet", "way a h long 1 ^wet"));
    }

    /** Ten ways from a and b to the others, the first of them wet. */
    private static String tenWays(int wet) {
        String[] ends = {"a b", "a c", "a d", "a e", "a f", "a g", "a h", "b c", "b d", "b e"};
        StringBuilder text = new StringBuilder(EIGHT);
        for (int k = 0; k < ends.length; k++) {
            text.append(";way ").append(ends[k]).append(" long 1 ").append(k < wet ? "wet" : "dry");
        }
        return text.toString();
    }

    private void others() {
        b.sentence(3, "voice NAME KIND at CAVE (KIND: idle, shy, bold, or rover; up to 3), or folk NAME at CAVE (up to 4)");
        String voices = TWO + ";voice s idle at a;voice t rover at a;voice u bold at b";
        b.fault(0, voices);
        b.fault(5, voices + ";^voice w shy at a");
        b.fault(1, TWO + ";voice v ^loud at a");
        String folk = TWO + ";folk s at a;folk t at a;folk u at b;folk v at a";
        b.fault(0, folk);
        b.fault(5, folk + ";^folk w at a");
        b.fault(0, voices + ";folk e at a;folk f at a;folk g at b;folk h at a");
        b.sentence(3, "echo CAVE after WHOLE (what was heard of the first voice, at first; 0 .. 400; each CAVE once; up to 4)");
        b.fault(0, EIGHT + ";echo a after 0;echo b after 400;echo c after 399;echo h after 1");
        b.fault(4, EIGHT + ";echo a after ^401");
        b.fault(4, EIGHT + ";echo a after ^999");
        b.fault(3, EIGHT + ";echo a after 0;echo b after 0;echo ^a after 0");
        b.fault(5, EIGHT + ";echo a after 0;echo b after 0;echo c after 0;echo d after 0;^echo e after 0");
        b.sentence(3, "unsure CAVE CAVE (a way told that may be otherwise, wet or dry, at first; each once; up to 4)");
        String four = tenWays(3) + ";unsure a b;unsure a c;unsure a d;unsure e a";
        b.fault(0, four);
        b.fault(5, four + ";^unsure a f");
        b.fault(3, JOINED + ";unsure a b;unsure a ^b");
        b.fault(3, JOINED + ";unsure a b;unsure b ^a");
        b.sentence(3, "talk CAVE CAVE HOW (unlike; HOW: heard, or lost; up to 5)");
        String five = TWO + ";talk a b lost;talk a b lost;talk b a heard;talk a b heard;talk b a lost";
        b.fault(0, five);
        b.fault(5, five + ";^talk a b lost");
        b.fault(3, TWO + ";talk b ^b lost");
        b.fault(1, TWO + ";talk a b ^dry");
    }

    private void names() {
        b.sentence(3, "NAMES are WORDS but well, cave, way, voice, folk, echo, unsure, talk");
        for (String word : LINES) {
            b.fault(1, HEAD + ";cave ^" + word + " deep");
            b.fault(1, TWO + ";voice ^" + word + " idle at a");
            b.fault(1, TWO + ";folk ^" + word + " at a");
            b.fault(1, TWO + ";folk f at ^" + word);
            b.fault(1, JOINED + ";unsure a ^" + word);
            b.fault(0, HEAD + ";cave " + word + "s deep;folk x" + word.substring(1) + " at " + word + "s");
        }
        String others = "loud errs drought mouth deep long dry wet";
        StringBuilder text = new StringBuilder(HEAD);
        for (String word : others.split(" ")) {
            text.append(";cave ").append(word).append(" mouth");
        }
        b.fault(0, text + ";way long dry long 1 dry;way wet dry long 1 wet;voice idle idle at loud;voice shy shy at mouth"
            + ";voice rover rover at deep;folk at at dry;folk after at wet;folk heard at errs;folk lost at long"
            + ";echo long after 5;unsure dry long;talk deep mouth lost");
        b.sentence(3, "each told once, ahead of its use");
        b.fault(3, TWO + ";cave ^b deep");
        b.fault(2, HEAD + ";way ^a b long 1 dry;cave a deep;cave b deep");
        b.fault(0, HEAD + ";cave a deep;folk f at a;cave b deep;way a b long 1 dry;echo a after 3;cave c deep");
    }

    private void leastFault() {
        b.sentence(4, "FAULTS, the first that is met from the left, of one place the least number");
        b.fault(2, TWO + ";way ^x x long 0");
        b.fault(3, TWO + ";way a ^a long 0 damp");
        b.fault(4, TWO + ";way a b long ^0 damp");
        b.fault(4, "well loud ^100 errs 101 drought 101;cave a");
        b.fault(5, EIGHT + ";^cave a shallow");
        b.fault(6, "^way way");
        b.fault(1, "^5;cave a deep");
        // A second well is one more than there is room for, too; the same cave twice has no way, too.
        b.fault(3, HEAD + ";^well");
        b.fault(3, TWO + ";unsure a ^a");
        // At the end a LINE lacks, and a cave.
        b.fault(1, HEAD + ";^");
        b.fault(1, "^");
        b.fault(1, "  ^");
        b.fault(6, HEAD + "^");
    }

    private void form() {
        b.sentence(4, "1 FORM: the first byte that begins no TOKEN, or TOKEN with which no WELL goes on (the end: its place)");
        b.fault(1, "^\u0000");
        b.fault(1, HEAD + ";cave a deep ^.");
        b.fault(1, HEAD + ";cave a deep ^\u00ff");
        b.fault(1, HEAD + ";cave a deep ^\n");
        b.fault(1, "^loud");
        b.fault(1, HEAD + " ^errs");
        b.fault(1, HEAD + ";cave a deep ^7");
        String whole = JOINED + ";voice v idle at a;folk f at b;echo a after 4;unsure a b;talk a b heard";
        b.fault(0, whole);
        // Cut behind any of its TOKENS the text ends too soon, but behind a LINE.
        for (int n = HEAD.length(); n < whole.length(); n++) {
            boolean line = whole.charAt(n) == ';';
            if (line || whole.charAt(n) == ' ') {
                String cut = whole.substring(0, n);
                b.fault(n == HEAD.length() ? 6 : line ? 0 : 1, n > HEAD.length() && line ? cut : cut + "^");
            }
        }
    }

    private void untold() {
        b.sentence(4, "2 a NAME that isn't told, or is of another sort than must stand there; at it");
        String sorts = JOINED + ";voice v idle at a;folk f at a";
        for (String wrong : new String[] {"x", "v", "f", "aa", "at", "dry"}) {
            b.fault(2, sorts + ";way ^" + wrong + " a long 2 dry");
            b.fault(2, sorts + ";way a ^" + wrong + " long 2 dry");
            b.fault(2, sorts + ";voice w shy at ^" + wrong);
            b.fault(2, sorts + ";folk w at ^" + wrong);
            b.fault(2, sorts + ";echo ^" + wrong + " after 2");
            b.fault(2, sorts + ";unsure ^" + wrong + " b");
            b.fault(2, sorts + ";unsure a ^" + wrong);
            b.fault(2, sorts + ";talk ^" + wrong + " b lost");
            b.fault(2, sorts + ";talk a ^" + wrong + " lost");
        }
    }

    private void again() {
        b.sentence(4, "3 a NAME told again; at it");
        String sorts = TWO + ";voice v idle at a;folk f at a";
        for (String told : new String[] {"a", "b", "v", "f"}) {
            b.fault(3, sorts + ";cave ^" + told + " deep");
            b.fault(3, sorts + ";voice ^" + told + " idle at a");
            b.fault(3, sorts + ";folk ^" + told + " at a");
        }
        b.sentence(4, "a second CAVE that is the first, to which there is a way already, or of an unsure way that is unsure already");
        b.fault(3, JOINED + ";way b ^b long 1 dry");
        b.fault(3, JOINED + ";unsure b ^b");
        b.fault(3, JOINED + ";talk a ^a heard");
        b.fault(3, JOINED + ";way a ^b long 1 dry");
        b.fault(3, JOINED + ";way b ^a long 1 dry");
        b.fault(3, JOINED + ";unsure a b;unsure a ^b");
        b.fault(3, JOINED + ";unsure b a;unsure a ^b");
        b.sentence(4, "a CAVE of an echo told already; at it");
        b.fault(3, TWO + ";echo a after 2;echo b after 2;echo ^b after 2");
        b.fault(3, TWO + ";echo a after 2;echo ^a after 2");
        b.sentence(4, "a second well: at that WORD");
        b.fault(3, TWO + ";  ^well loud 5 errs 5 drought 5");
        b.fault(3, HEAD + ";^well");
    }

    private void outOfBounds() {
        b.sentence(4, "4 a WHOLE out of bounds; at it");
        b.fault(4, "well loud   ^100");
        b.fault(4, "well loud 0 errs ^101");
        b.fault(4, "well loud 0 errs 0 drought ^101");
        b.fault(4, TWO + ";way a b long ^0");
        b.fault(4, TWO + ";way a b long ^000");
        b.fault(4, TWO + ";way a b long ^21");
        b.fault(4, TWO + ";echo a after ^401");
    }

    private void many() {
        b.sentence(4, "5 MANY: a LINE more of its sort than there is room for, at its first WORD");
        b.fault(5, EIGHT + "; ^cave");
        b.fault(5, tenWays(0) + "; ^way");
        b.fault(5, TWO + ";voice s idle at a;voice t shy at a;voice u bold at b; ^voice");
        b.fault(5, TWO + ";folk s at a;folk t at a;folk u at b;folk v at b; ^folk");
        b.fault(5, EIGHT + ";echo a after 0;echo b after 0;echo c after 0;echo d after 0; ^echo");
        b.fault(5, tenWays(0) + ";unsure a b;unsure a c;unsure a d;unsure a e; ^unsure");
        b.fault(5, TWO + ";talk a b lost;talk a b lost;talk a b lost;talk a b lost;talk a b lost; ^talk");
        b.sentence(4, "a seventh wet way; at its STATE");
        String six = tenWays(6).substring(0, tenWays(6).indexOf(";way a h"));
        b.fault(0, six);
        b.fault(0, six + ";way a h long 1 dry;way b c long 1 dry;way b d long 1 dry;way b e long 1 dry");
        b.fault(5, six + ";way a h long 1 ^wet");
        b.fault(5, six + ";way a h long 1 dry;way b c long 1 dry;way b d long 1 dry;way b e long 1 ^wet");
        b.fault(1, six + ";way a h long 1 ^deep");
    }

    private void lacks() {
        b.sentence(4, "6 LACKS: any LINE ahead of the well; at its WORD");
        for (int i = 1; i < LINES.length; i++) {
            b.fault(6, "  ^" + LINES[i]);
            b.fault(6, "^" + LINES[i] + " a b long 1 dry;" + TWO);
        }
        b.sentence(4, "at the end: no cave");
        b.fault(6, HEAD + "^");
        b.fault(6, HEAD + "    ^");
        b.fault(0, HEAD + ";cave a deep");
    }

    private void noWay() {
        b.sentence(4, "7 NO WAY: an unsure one of two CAVES between which there is none; at the second CAVE");
        b.fault(7, TWO + ";unsure a ^b");
        b.fault(7, TWO + ";unsure b ^a;way a b long 1 dry");
        b.fault(7, JOINED + ";cave c deep;way b c long 1 wet;unsure a ^c");
        b.fault(0, JOINED + ";cave c deep;way b c long 1 wet;unsure c b");
    }

    private void firstBytes() {
        b.sentence(3, "The first n bytes of THE TAPE (it is empty then) are the WELL from now on");
        WellVoice x = new WellVoice();
        Checks.feed(x, TWO + ";cave c deep;cave d deep");
        t.allowed(x, "well(), not all bytes", x.well(TWO.length()), 2);
        t.due("size(13)", x.size(13), 0);
        t.refused(x, "well(1), the others are gone, too", x.well(1), -1, 2);
        t.refused(x, "well(0)", x.well(0), -1, 4);
        t.due("fault()", x.fault(), 1);
        t.due("where()", x.where(), 0);
        Checks.feed(x, TWO);
        t.refused(x, "well(0) of many", x.well(0), -1, 4);
        t.due("where()", x.where(), 0);
        t.due("size(13) behind a FAULT", x.size(13), 0);
        Checks.feed(x, TWO + ";echo a after 400");
        t.allowed(x, "well(), within a WHOLE", x.well(TWO.length() + ";echo a after 40".length()), 2);
        t.due("feed()", x.feed(0, 0, 0, 0, 0), 20);
        // Nothing is left of a WELL before, nor of one that had a FAULT.
        for (String before : new String[] {tenWays(6), tenWays(6) + ";dig"}) {
            WellVoice y = new WellVoice();
            Checks.tell(y, before.replace("deep", "mouth") + ";talk a b heard;talk a c heard");
            t.allowed(y, "well() behind another", Checks.tell(y, TWO.replace("mouth", "deep")
                + ";cave c deep;way b c long 3 dry;way a c long 2 dry;talk a b lost;talk a c lost"), 3);
            t.due("cave(0, 0)", y.cave(0, 0), 0);
            t.due("far(1, 0)", y.far(1, 0), 5);
            t.due("liar()", y.liar(), 0);
            t.due("unsure ways of before", Checks.tell(y, TWO + ";unsure a b"), -1);
            t.due("fault()", y.fault(), 7);
        }
        b.sentence(3, "how many caves");
        t.due("well() of one", Checks.of(HEAD + ";cave a deep").size(3), 1);
        t.due("well() of eight", Checks.tell(new WellVoice(), EIGHT), 8);
    }

    private void tapeStays() {
        b.sentence(3, "NONE: 2 (THE TAPE stays)");
        WellVoice x = new WellVoice();
        t.refused(x, "well(1), none came", x.well(1), -1, 2);
        Checks.feed(x, TWO);
        int size = x.size(13);
        for (int n : new int[] {-1, size + 1, size + 20, 900, 901, Integer.MIN_VALUE, Integer.MAX_VALUE}) {
            t.refused(x, "well(" + n + ")", x.well(n), -1, 2);
            t.due("size(13)", x.size(13), size);
        }
        t.allowed(x, "well(" + size + ")", x.well(size), 2);
    }

    private void wellStays() {
        b.sentence(3, "4 (the WELL stays)");
        WellVoice x = Checks.of(JOINED + ";voice v rover at a;folk f at a");
        x.year();
        x.image();
        x.flood(0);
        String late = EIGHT.replace('5', '9') + ";way a b long 9 wet;voice q shy at h;folk r at h;echo h after 9;dig";
        t.refused(x, "well() with a FAULT at its end", Checks.tell(x, late), -1, 4);
        int[] want = {5, 5, 5, 2, 1, 1, 1, 0, 0, 0, 1, 2, 1, 0};
        for (int what = 0; what < want.length; what++) {
            t.due("size(" + what + ")", x.size(what), want[what]);
        }
        t.due("way(0, 2)", x.way(0, 2), 2);
        t.due("voice(0, 0)", x.voice(0, 0), 3);
        t.due("folk(0)", x.folk(0), 0);
        t.due("far(0, 1)", x.far(0, 1), -2);
        t.due("undo()", x.undo(), true);
        t.due("far(0, 1)", x.far(0, 1), 2);
        t.due("back(0)", x.back(0), true);
        t.due("voice(0, 1)", x.voice(0, 1), 1);
        WellVoice none = new WellVoice();
        t.refused(none, "well() with a FAULT", Checks.tell(none, late), -1, 4);
        t.refused(none, "parts(), still no WELL", none.parts(), -1, 1);
        t.due("size(0)", none.size(0), 0);
    }

    private void newWell() {
        b.sentence(3, "(no year gone by; nothing to undo, no IMAGES)");
        WellVoice x = Checks.of(JOINED + ";voice v rover at a;folk f at a");
        x.year();
        x.flood(0);
        x.image();
        t.allowed(x, "well() of the same", Checks.tell(x, JOINED + ";voice v rover at a;folk f at a"), 2);
        t.due("size(10)", x.size(10), 0);
        t.due("size(11)", x.size(11), 0);
        t.due("size(12)", x.size(12), 0);
        t.refused(x, "undo()", x.undo(), 6);
        t.refused(x, "back(0)", x.back(0), 1);
        t.due("voice(0, 1)", x.voice(0, 1), 0);
        t.due("voice(0, 2)", x.voice(0, 2), -2);
        t.due("way(0, 3)", x.way(0, 3), 0);
        t.allowed(x, "image(), the first again", x.image(), 0);
    }

    private void faultAndWhere() {
        b.sentence(4, "The FAULT of the latest well() not refused by 2");
        WellVoice x = new WellVoice();
        t.due("well()", Checks.tell(x, "cave"), -1);
        t.due("fault()", x.fault(), 6);
        t.due("well(1)", x.well(1), -1);
        t.due("fault()", x.fault(), 6);
        t.due("cave(0, 0)", x.cave(0, 0), -1);
        t.due("fault()", x.fault(), 6);
        t.due("well()", Checks.tell(x, "."), -1);
        t.due("fault()", x.fault(), 1);
        b.sentence(4, "0 without one");
        t.due("fault() of a new object", new WellVoice().fault(), 0);
        WellVoice early = new WellVoice();
        t.refused(early, "well(-1)", early.well(-1), -1, 2);
        t.due("fault()", early.fault(), 0);
        t.due("well()", Checks.tell(x, TWO), 2);
        t.due("fault()", x.fault(), 0);
        t.due("well(1)", x.well(1), -1);
        t.due("fault(), refused by 2", x.fault(), 0);
        b.sentence(5, "Its place, if the latest call that may be refused was by 4");
        t.due("well()", Checks.tell(x, "  cave"), -1);
        t.due("where()", x.where(), 2);
        t.due("feed()", x.feed(0, 0, 0, 0, 0), 20);
        t.due("size(99)", x.size(99), -1);
        t.due("fault()", x.fault(), 6);
        t.due("trouble()", x.trouble(), 4);
        t.due("led(0) throws", Checks.ledThrows(x, 0), true);
        t.due("where(), no call between may be refused", x.where(), 2);
        b.sentence(5, "NONE else");
        t.due("where() of a new object", new WellVoice().where(), -1);
        t.due("cave(0, 0), not refused", x.cave(0, 0), 1);
        t.due("where()", x.where(), -1);
        String[] calls = {"cave(9, 0)", "after(0, 61)", "image()", "dig(0)", "undo()", "well(99)"};
        for (int i = 0; i < calls.length; i++) {
            WellVoice y = Checks.of(JOINED + ";voice v idle at a");
            y.image();
            y.image();
            y.image();
            Checks.tell(y, "   ");
            t.due("where()", y.where(), 3);
            refuse(y, i);
            t.due("where() behind " + calls[i], y.where(), -1);
            t.due("fault() behind " + calls[i], y.fault(), 1);
        }
    }

    private static void refuse(WellVoice x, int how) {
        switch (how) {
            case 0 -> x.cave(9, 0);
            case 1 -> x.after(0, 61);
            case 2 -> x.image();
            case 3 -> x.dig(0);
            case 4 -> x.undo();
            default -> x.well(99);
        }
    }
}
