/** Promises 1 to 5: a new object, THE TAPE, the text of a WELL and its FAULTS. */
public final class TextTest {
    private static final Checks t = new Checks();
    private static final String HEAD = "well loud 5 errs 5 drought 5";
    private static final String TWO = HEAD + ";cave a mouth;cave b deep";
    private static final String JOINED = TWO + ";way a b long 2 dry";
    private static final String EIGHT = HEAD + ";cave a deep;cave b deep;cave c deep;cave d deep"
        + ";cave e deep;cave f deep;cave g deep;cave h deep";

    /** The fault is where the mark ^ stands in the text; none without one. */
    private static void fault(int number, String marked) {
        int at = marked.indexOf('^');
        String text = at < 0 ? marked : marked.substring(0, at) + marked.substring(at + 1);
        WellVoice x = new WellVoice();
        int got = Checks.tell(x, text);
        t.due("fault() of " + marked, x.fault(), number);
        t.due("where() of " + marked, x.where(), at);
        t.due("trouble() of " + marked, x.trouble(), number == 0 ? 0 : 4);
        t.due("well() of " + marked + " is refused", got == WellVoice.NONE, number != 0);
    }

    public static void main(String[] args) {
        newObject();
        tape();
        wellStays();
        tokens();
        form();
        names();
        again();
        bounds();
        many();
        lacks();
        wordsByLetters();
        cut();
        wellBehindWell();
        t.finish("TextTest");
    }

    private static void newObject() {
        WellVoice x = new WellVoice();
        t.due("trouble()", x.trouble(), 0);
        t.due("fault()", x.fault(), 0);
        t.due("where()", x.where(), -1);
        for (int what = 0; what <= 13; what++) {
            t.due("size(" + what + ")", x.size(what), 0);
        }
        t.refused(x, "cave(0, 0)", x.cave(0, 0), -1, 1);
        t.refused(x, "parts()", x.parts(), -1, 1);
        t.due("NONE", WellVoice.NONE, -1);
    }

    private static void tape() {
        WellVoice x = new WellVoice();
        t.refused(x, "well(-1)", x.well(-1), -1, 2);
        for (int i = 1; i <= 45; i++) {
            t.due("feed " + i, x.feed(0x77656c6c, 0x20202020, -1, 0, Integer.MIN_VALUE), 20 * i);
        }
        t.due("trouble() behind feed, which has no number", x.trouble(), 2);
        t.due("feed 46", x.feed(0, 0, 0, 0, 0), -1);
        t.due("trouble() behind a feed without room", x.trouble(), 2);
        t.due("size(13)", x.size(13), 900);
        t.refused(x, "well(901)", x.well(901), -1, 2);
        t.due("size(13), THE TAPE stays", x.size(13), 900);
        t.due("fault() of none", x.fault(), 0);
        t.refused(x, "well(900)", x.well(900), -1, 4);
        t.due("where(), byte 255 behind the blanks", x.where(), 8);
        t.due("size(13), THE TAPE is empty", x.size(13), 0);
        t.due("feed", x.feed(0, 0, 0, 0, 0), 20);
        t.due("where(), feed has no number", x.where(), 8);
        t.refused(x, "well(21)", x.well(21), -1, 2);
        t.due("where(), refused by 2", x.where(), -1);
        t.due("fault() of the well() before", x.fault(), 1);
        String long900 = EIGHT + " ".repeat(900 - EIGHT.length());
        x = new WellVoice();
        t.allowed(x, "well of 900 bytes", Checks.tell(x, long900), 8);
    }

    private static void wellStays() {
        WellVoice x = Checks.of(JOINED + ";voice v rover at a");
        t.due("size(3)", x.size(3), 2);
        t.due("year()", x.year(), 1);
        t.due("image()", x.image(), 0);
        t.due("well with a fault", Checks.tell(x, "cave a deep"), -1);
        t.due("fault()", x.fault(), 6);
        t.due("where()", x.where(), 0);
        t.due("size(4), not refused, has no number", x.size(4), 1);
        t.due("where() again", x.where(), 0);
        t.due("size(10), the WELL stays", x.size(10), 1);
        t.due("size(11), the WELL stays", x.size(11), 1);
        t.due("size(12), the WELL stays", x.size(12), 1);
        t.allowed(x, "voice(0, 1)", x.voice(0, 1), 1);
        t.due("where() behind another call", x.where(), -1);
        t.due("fault() behind another call", x.fault(), 6);
        t.allowed(x, "well of one cave", Checks.tell(x, "well loud 7 errs 8 drought 9;cave z deep"), 1);
        t.due("fault() without one", x.fault(), 0);
        for (int what = 0; what <= 13; what++) {
            int want = what < 3 ? 7 + what : what == 3 ? 1 : 0;
            t.due("size(" + what + ") of a new WELL", x.size(what), want);
        }
        t.refused(x, "undo(), nothing to undo", x.undo(), 6);
        t.refused(x, "back(0), no IMAGES", x.back(0), 1);
        Checks.feed(x, TWO + ";cave x deep");
        t.allowed(x, "well of the first bytes alone", x.well(TWO.length()), 2);
    }

    private static void tokens() {
        fault(0, "  well   loud 5 errs 5 drought 5  ;  cave a mouth  ");
        fault(0, "well loud5errs5drought5;cave a deep");
        fault(0, "well loud 005 errs 000 drought 100;cave abcdefgh deep");
        fault(0, HEAD + ";cave at deep;cave long deep;way at long long 1 wet;folk mouth at at");
        fault(1, HEAD + ";cave ^abcdefghi deep");
        fault(1, "well loud ^0005 errs 5 drought 5;cave a deep");
        fault(1, "^Well loud 5 errs 5 drought 5;cave a deep");
        fault(1, HEAD + ";cave a^1 deep");
        fault(1, HEAD + ";cave a^. deep");
        fault(1, HEAD + ";cave a deep^\n");
        fault(1, HEAD + ";cave a deep^\u00e9");
        fault(1, HEAD + ";cave a^\u0000deep");
        fault(1, "^{");
        fault(1, "^`");
        fault(1, "^/");
        fault(1, "^:");
    }

    private static void form() {
        fault(1, "^");
        fault(1, "   ^");
        fault(1, "^;");
        fault(1, "^5");
        fault(1, "^a");
        fault(1, "well^");
        fault(1, "well ^5");
        fault(1, "well loud ^errs 5 drought 5");
        fault(1, "well loud 5^");
        fault(1, "well loud 5 ^drought 5");
        fault(1, "well loud 5 errs ^;");
        fault(1, "well loud 5 errs 5 drought^");
        fault(1, HEAD + "^cave a deep");
        fault(1, HEAD + ";^");
        fault(1, HEAD + "; ^; cave a deep");
        fault(1, HEAD + ";cave^");
        fault(1, HEAD + ";cave ^5");
        fault(1, HEAD + ";cave ^well deep");
        fault(1, HEAD + ";cave a^");
        fault(1, HEAD + ";cave a ^wet");
        fault(1, HEAD + ";cave a deep ^mouth");
        fault(1, HEAD + ";cave a deep;^");
        fault(1, HEAD + ";cave a deep;^dig a");
        fault(1, TWO + ";way ^way b long 2 dry");
        fault(1, TWO + ";way a ^5");
        fault(1, TWO + ";way a ^talk");
        fault(1, TWO + ";way a b ^2 dry");
        fault(1, TWO + ";way a b long ^dry");
        fault(1, TWO + ";way a b long 2^");
        fault(1, TWO + ";way a b long 2 ^deep");
        fault(1, TWO + ";voice ^folk idle at a");
        fault(1, TWO + ";voice v ^at a");
        fault(1, TWO + ";voice v idle ^a");
        fault(1, TWO + ";voice v idle at^");
        fault(1, TWO + ";folk f ^idle at a");
        fault(1, TWO + ";folk f at ^echo");
        fault(1, TWO + ";echo ^5");
        fault(1, TWO + ";echo a ^5");
        fault(1, TWO + ";echo a after ^a");
        fault(1, JOINED + ";unsure a^");
        fault(1, JOINED + ";unsure a b ^heard");
        fault(1, TWO + ";talk a b^");
        fault(1, TWO + ";talk a b ^wet");
        fault(1, TWO + ";talk a b heard ^lost");
    }

    private static void names() {
        fault(2, TWO + ";way ^x b long 2 dry");
        fault(2, TWO + ";way a ^x long 2 dry");
        fault(2, TWO + ";voice v idle at ^v");
        fault(2, TWO + ";voice v idle at ^x");
        fault(2, TWO + ";voice v idle at a;way a ^v long 2 dry");
        fault(2, TWO + ";folk f at ^f");
        fault(2, TWO + ";folk f at a;echo ^f after 2");
        fault(2, TWO + ";echo ^x after 2");
        fault(2, JOINED + ";unsure ^x b");
        fault(2, JOINED + ";unsure a ^x");
        fault(2, TWO + ";talk ^x a lost");
        fault(2, TWO + ";talk a ^x lost");
        fault(2, HEAD + ";way ^a b long 2 dry;cave a deep;cave b deep");
        fault(2, HEAD + ";echo ^after after 2");
    }

    private static void again() {
        fault(3, TWO + ";cave ^a deep");
        fault(3, TWO + ";voice ^b idle at a");
        fault(3, TWO + ";folk ^a at a");
        fault(3, TWO + ";voice v idle at a;folk ^v at a");
        fault(3, TWO + ";folk v at a;cave ^v deep");
        fault(3, TWO + ";voice v idle at a;voice ^v idle at a");
        fault(3, TWO + ";way a ^a long 2 dry");
        fault(3, JOINED + ";way a ^b long 2 wet");
        fault(3, JOINED + ";way b ^a long 0");
        fault(3, TWO + ";echo a after 2;echo ^a after 4");
        fault(3, TWO + ";unsure a ^a");
        fault(3, JOINED + ";unsure a b;unsure a ^b");
        fault(3, JOINED + ";unsure a b;unsure b ^a");
        fault(3, TWO + ";talk b ^b lost");
        fault(3, HEAD + ";^well loud 5");
        fault(3, TWO + ";^well");
        fault(0, TWO + ";talk a b lost;talk a b lost;talk b a heard");
        fault(7, TWO + ";unsure a ^b");
        fault(7, JOINED + ";cave c deep;unsure c ^a");
    }

    private static void bounds() {
        fault(0, "well loud 99 errs 100 drought 100;cave a deep");
        fault(0, "well loud 0 errs 0 drought 0;cave a deep");
        fault(4, "well loud ^100 errs 5 drought 5;cave a deep");
        fault(4, "well loud 5 errs ^101 drought 5;cave a deep");
        fault(4, "well loud 5 errs 5 drought ^101;cave a deep");
        fault(0, TWO + ";way a b long 20 dry");
        fault(4, TWO + ";way a b long ^21 dry");
        fault(4, TWO + ";way a b long ^0 dry");
        fault(0, TWO + ";way a b long 1 dry");
        fault(0, TWO + ";echo a after 400;echo b after 0");
        fault(4, TWO + ";echo a after ^401");
    }

    private static void many() {
        fault(0, EIGHT);
        fault(5, EIGHT + ";^cave a");
        String ten = EIGHT + ";way a b long 1 dry;way a c long 1 dry;way a d long 1 dry;way a e long 1 dry"
            + ";way a f long 1 dry;way a g long 1 wet;way a h long 1 wet;way b c long 1 wet"
            + ";way b d long 1 wet;way b e long 1 wet";
        fault(0, ten);
        fault(5, ten + ";^way a");
        String six = EIGHT + ";way a b long 1 wet;way a c long 1 wet;way a d long 1 wet;way a e long 1 wet"
            + ";way a f long 1 wet;way a g long 1 wet";
        fault(0, six + ";way a h long 1 dry");
        fault(5, six + ";way a h long 1 ^wet");
        fault(1, six + ";way a h long 1 ^damp");
        String voices = TWO + ";voice s idle at a;voice t shy at a;voice u bold at b";
        fault(0, voices);
        fault(5, voices + ";^voice w");
        String folk = TWO + ";folk s at a;folk t at a;folk u at b;folk v at a";
        fault(0, folk);
        fault(5, folk + ";^folk w");
        String echoes = EIGHT + ";echo a after 1;echo b after 1;echo c after 1;echo d after 1";
        fault(0, echoes);
        fault(5, echoes + ";^echo e after 1");
        String unsure = ten + ";unsure a b;unsure c a;unsure a d;unsure b e";
        fault(0, unsure);
        fault(5, unsure + ";^unsure a e");
        String talks = TWO + ";talk a b lost;talk a b lost;talk a b lost;talk a b lost;talk a b lost";
        fault(0, talks);
        fault(5, talks + ";^talk a b lost");
    }

    private static void lacks() {
        for (String word : new String[] {"cave", "way", "voice", "folk", "echo", "unsure", "talk"}) {
            fault(6, " ^" + word);
        }
        fault(6, HEAD + "^");
        fault(6, HEAD + "  ^");
        fault(1, HEAD + ";^");
    }

    /** Every word of a WELL that is no NAME, with another first letter, another last one, or one less. */
    private static void wordsByLetters() {
        String text = JOINED + ";way x a long 1 wet;voice i idle at a;voice s shy at a;voice o bold at a"
            + ";folk f at a;echo a after 2;unsure a b;talk a b heard;talk a b lost";
        text = text.replace(";way a b", ";cave x deep;way a b");
        fault(0, text);
        fault(0, text.replace("bold", "rover"));
        String words = "well loud errs drought cave mouth deep way long dry wet voice idle shy bold folk at echo after"
            + " unsure talk heard lost";
        for (String word : words.split(" ")) {
            int at = (" " + text.replace(';', ' ') + " ").indexOf(" " + word + " ");
            String ahead = text.substring(0, at) + "^";
            String behind = text.substring(at + word.length());
            fault(1, ahead + "q" + word.substring(1) + behind);
            fault(1, ahead + word.substring(0, word.length() - 1) + "q" + behind);
            fault(1, ahead + word.substring(0, word.length() - 1) + behind);
            fault(1, ahead + word + "q" + behind);
        }
    }

    /** What stands behind the first n bytes is no part of the WELL, though it would go on there. */
    private static void cut() {
        WellVoice x = new WellVoice();
        Checks.feed(x, TWO + ";voice v idle at a;echo a after 05;echo b after 0");
        t.allowed(x, "well(), a number cut", x.well((TWO + ";voice v idle at a;echo a after 0").length()), 2);
        t.due("size(7)", x.size(7), 1);
        t.allowed(x, "judge(), the echo told is 0", x.judge(), -2);
        Checks.feed(x, TWO + ";cave seven deep");
        t.refused(x, "well(), a word cut", x.well((TWO + ";cave seven dee").length()), -1, 4);
        t.due("where()", x.where(), (TWO + ";cave seven ").length());
        Checks.feed(x, HEAD + ";cave a deep;cave b deepq");
        t.allowed(x, "well(), a word cut to what it must be", x.well((HEAD + ";cave a deep;cave b deep").length()), 2);
    }

    /** Nothing is left of a WELL before, nor of one that was refused. */
    private static void wellBehindWell() {
        WellVoice x = new WellVoice();
        String full = HEAD + ";cave a mouth;cave b mouth;cave c mouth;way a b long 1 wet;way b c long 1 wet"
            + ";way a c long 1 wet;voice v rover at c;folk f at b;echo a after 2;unsure a b;talk a b heard";
        String plain = "well loud 9 errs 0 drought 0;cave c deep;cave b deep;cave a deep;way a b long 2 dry"
            + ";way b c long 3 dry;way c a long 9 dry;talk a b lost;unsure c b";
        for (String before : new String[] {full, full + ";dig"}) {
            Checks.tell(x, before);
            t.allowed(x, "well() behind another", Checks.tell(x, plain), 3);
            t.allowed(x, "cave(0, 0)", x.cave(0, 0), 0);
            t.allowed(x, "cave(2, 0)", x.cave(2, 0), 0);
            t.allowed(x, "far(2, 1)", x.far(2, 1), 2);
            t.allowed(x, "far(0, 2)", x.far(0, 2), 5);
            t.allowed(x, "liar()", x.liar(), 0);
            t.allowed(x, "fits()", x.fits(), 7);
            t.refused(x, "voice(0, 0)", x.voice(0, 0), -1, 1);
            t.refused(x, "folk(0)", x.folk(0), -1, 1);
            t.refused(x, "dryBy(1)", x.dryBy(1), -1, 1);
        }
    }
}
