/** Promises 17 to 22, and YEARS: where voices go year by year, where they meet, when it goes round. */
final class BoundsOfYears {
    private static final String EIGHT = "well loud 1 errs 0 drought 0;cave a mouth;cave b deep;cave c deep;cave d deep"
        + ";cave e deep;cave f deep;cave g deep;cave h deep";
    private static final int[] NO_VOICES = {-1, 3, 4, 32, Integer.MIN_VALUE, Integer.MAX_VALUE};
    private static final int[] NO_CAVES = {-1, 8, 9, 32, Integer.MIN_VALUE, Integer.MAX_VALUE};

    private final Bounds b;
    private final Checks t;

    BoundsOfYears(Bounds b) {
        this.b = b;
        t = b.t;
    }

    void run() {
        idle();
        rover();
        shyAndBold();
        after();
        comes();
        meets();
        silentIn();
        settles();
        round();
    }

    private void caves(WellVoice x, int v, int... want) {
        for (int n = 0; n < want.length; n++) {
            t.allowed(x, "after(" + v + ", " + n + ")", x.after(v, n), want[n]);
        }
    }

    private void idle() {
        b.sentence(17, "A YEAR: all voices go at once, where folk stay: an idle one stays");
        WellVoice x = Checks.of(EIGHT + Checks.ways(1, "ab bc") + ";voice v idle at b;voice w rover at a;voice y bold at c"
            + ";folk m at b");
        caves(x, 0, 1, 1, 1);
        t.allowed(x, "year(), two pass into one cave", x.year(), 6);
        t.due("cave(1, 2)", x.cave(1, 2), 7);
        t.due("folk(0)", x.folk(0), 1);
    }

    private void rover() {
        b.sentence(17, "a rover goes to the first NEIGHBOUR, by numbers, but the cave it came from in the last YEAR or CALL in"
            + " which it went (at first none), that one if there is no other one (it stays without any)");
        WellVoice x = Checks.of(EIGHT + Checks.ways(1, "ba bh bc") + ";voice v rover at b;voice w rover at h;voice y rover at d");
        caves(x, 0, 1, 0, 1, 2, 1, 0, 1);
        caves(x, 1, 7, 1, 0, 1, 2, 1, 0);
        caves(x, 2, 3, 3, 3);
        t.allowed(x, "call(0)", x.call(0), 1);
        t.allowed(x, "call(1), back from a", x.call(1), 3);
        caves(x, 0, 1, 2, 1, 0);
        t.due("voice(0, 2), by the CALL", x.voice(0, 2), 0);
        t.allowed(x, "call(1), it is there", x.call(1), 0);
        t.due("voice(0, 2), it went in none of these", x.voice(0, 2), 0);
        t.allowed(x, "flood(2)", x.flood(2));
        t.allowed(x, "flood(1)", x.flood(1));
        caves(x, 0, 1, 0, 1, 0);
        t.allowed(x, "flood(0)", x.flood(0));
        caves(x, 0, 1, 1);
        t.allowed(x, "year(), none goes", x.year(), 0);
        t.due("voice(0, 2), kept", x.voice(0, 2), 0);
        t.allowed(x, "dig(1)", x.dig(1));
        caves(x, 0, 1, 7, 1, 7);
    }

    private void shyAndBold() {
        b.sentence(17, "a shy one stays or goes to a NEIGHBOUR from which the nearest folk are farthest (none at all: farthest"
            + " of all), a bold one where they are nearest: where it is ahead of all, then by numbers");
        String square = EIGHT + Checks.ways(2, "ab bc cd da");
        WellVoice none = Checks.of(square + ";voice v shy at b;voice w bold at b");
        caves(none, 0, 1, 1);
        caves(none, 1, 1, 1);
        WellVoice apart = Checks.of(square + ";voice v shy at b;voice w bold at b;folk m at h");
        caves(apart, 0, 1, 1);
        caves(apart, 1, 1, 1);
        // From b and from d it is 2 to a, from c 4; and all caves are 2 or 0 from folk in b and d.
        WellVoice one = Checks.of(square + ";voice v shy at a;voice w bold at c;voice y shy at c;folk m at a");
        caves(one, 0, 0, 1, 2, 2);
        caves(one, 1, 2, 1, 0, 0);
        caves(one, 2, 2, 2);
        WellVoice two = Checks.of(square + ";voice v shy at a;voice w bold at a;voice y bold at d;folk m at b;folk n at d");
        caves(two, 0, 0, 0);
        caves(two, 1, 0, 1, 1);
        caves(two, 2, 3, 3);
        WellVoice like = Checks.of(EIGHT + Checks.ways(2, "ha hb hc") + ";voice v shy at h;voice w bold at c;folk m at h");
        caves(like, 0, 7, 0, 0);
        caves(like, 1, 2, 7, 7);
        WellVoice fourth = Checks.of(EIGHT + Checks.ways(2, "ab bc cd de") + ";voice v bold at c;folk m at h;folk n at h"
            + ";folk o at h;folk p at e");
        caves(fourth, 0, 2, 3, 4, 4);
    }

    private void after() {
        WellVoice x = Checks.of(EIGHT + Checks.ways(1, "ab bc cd de ef fg ga") + ";voice v rover at a;voice w idle at h"
            + ";voice y rover at g");
        b.sentence(17, "The cave of a voice behind n YEARS (0 .. 60)");
        t.allowed(x, "after(0, 0)", x.after(0, 0), 0);
        t.allowed(x, "after(0, 1)", x.after(0, 1), 1);
        t.allowed(x, "after(0, 6)", x.after(0, 6), 6);
        t.allowed(x, "after(0, 7), round", x.after(0, 7), 0);
        t.allowed(x, "after(0, 59)", x.after(0, 59), 3);
        t.allowed(x, "after(0, 60)", x.after(0, 60), 4);
        t.allowed(x, "after(1, 60)", x.after(1, 60), 7);
        t.allowed(x, "after(2, 60), the last voice", x.after(2, 60), 3);
        t.due("size(10), none went by", x.size(10), 0);
        b.sentence(17, "NONE: 1; 2");
        for (int v : NO_VOICES) {
            t.refused(x, "after(" + v + ", 0)", x.after(v, 0), -1, 1);
            t.refused(x, "after(" + v + ", 61)", x.after(v, 61), -1, 1);
        }
        for (int n : new int[] {-1, 61, 62, Integer.MIN_VALUE, Integer.MAX_VALUE}) {
            t.refused(x, "after(0, " + n + ")", x.after(0, n), -1, 2);
        }
        WellVoice none = new WellVoice();
        t.refused(none, "after(0, 61) without a WELL", none.after(0, 61), -1, 1);
    }

    private void comes() {
        WellVoice x = Checks.of(EIGHT + Checks.ways(1, "fg bg fa hf dc cg he gd ac be") + ";voice v rover at h;voice w idle at c");
        b.sentence(18, "Behind how many YEARS (0 .. 60) a voice is first in a cave; -2");
        int[] first = {5, 2, 4, 14, 1, 6, 3, 0};
        for (int c = 0; c < 8; c++) {
            t.allowed(x, "comes(0, " + c + ")", x.comes(0, c), first[c]);
            t.allowed(x, "comes(1, " + c + ")", x.comes(1, c), c == 2 ? 0 : -2);
        }
        b.sentence(18, "NONE: 1");
        for (int v : new int[] {-1, 2, 3, 32, Integer.MIN_VALUE, Integer.MAX_VALUE}) {
            t.refused(x, "comes(" + v + ", 0)", x.comes(v, 0), -1, 1);
        }
        for (int c : NO_CAVES) {
            t.refused(x, "comes(0, " + c + ")", x.comes(0, c), -1, 1);
        }
    }

    private void meets() {
        b.sentence(19, "Behind how many YEARS (0 .. 60) two voices are first in one cave; -2");
        WellVoice late = Checks.of(EIGHT + Checks.ways(1, "he da cg fh ge ce gb ah fc") + ";voice v rover at g;voice w rover at h");
        t.allowed(late, "meets(0, 1), late", late.meets(0, 1), 29);
        t.allowed(late, "meets(1, 0)", late.meets(1, 0), 29);
        WellVoice x = Checks.of(EIGHT + Checks.ways(1, "ab") + ";voice v rover at a;voice w rover at b;voice y idle at a");
        t.allowed(x, "meets(0, 1), they pass for ever", x.meets(0, 1), -2);
        t.allowed(x, "meets(0, 2), NOW", x.meets(0, 2), 0);
        t.allowed(x, "meets(2, 1)", x.meets(2, 1), 1);
        b.sentence(19, "NONE: 1 (unlike)");
        for (int v = 0; v < 3; v++) {
            t.refused(x, "meets(" + v + ", " + v + ")", x.meets(v, v), -1, 1);
        }
        for (int v : NO_VOICES) {
            t.refused(x, "meets(" + v + ", 0)", x.meets(v, 0), -1, 1);
            t.refused(x, "meets(0, " + v + ")", x.meets(0, v), -1, 1);
        }
    }

    private void silentIn() {
        b.sentence(20, "Behind how many YEARS (0 .. 60) nobody hears a voice first; -2");
        String row = EIGHT + Checks.ways(1, "ab bc cd de ef fg gh") + ";voice v rover at a;voice w idle at b;voice y idle at c";
        WellVoice x = Checks.of(row + ";folk m at a");
        t.allowed(x, "silentIn(0), farther than loud", x.silentIn(0), 2);
        t.allowed(x, "silentIn(1), as far as loud for ever", x.silentIn(1), -2);
        t.allowed(x, "silentIn(2), NOW", x.silentIn(2), 0);
        WellVoice all = Checks.of(row.replace("loud 1", "loud 6") + ";folk m at a");
        t.allowed(all, "silentIn(0), at the end alone", all.silentIn(0), 7);
        WellVoice never = Checks.of(row.replace("loud 1", "loud 7") + ";folk m at a");
        t.allowed(never, "silentIn(0), never", never.silentIn(0), -2);
        WellVoice last = Checks.of(row + ";folk m at h;folk n at h;folk o at h;folk p at a");
        t.allowed(last, "silentIn(0), by the last of the folk", last.silentIn(0), 2);
        WellVoice none = Checks.of(row);
        t.allowed(none, "silentIn(0), no folk, though voices hear", none.silentIn(0), 0);
        b.sentence(20, "NONE: 1");
        for (int v : NO_VOICES) {
            t.refused(x, "silentIn(" + v + ")", x.silentIn(v), -1, 1);
        }
    }

    private void settles() {
        b.sentence(21, "From which YEAR on (0 NOW) the caves of a voice, behind each, come again, all of them, in that order, first");
        WellVoice late = Checks.of(EIGHT + Checks.ways(1, "gb he gd ed hd fb ba ag fc hc") + ";voice v rover at e;voice w idle at e"
            + ";voice y shy at a;folk m at a");
        t.allowed(late, "settles(0), late", late.settles(0), 13);
        t.allowed(late, "settles(1)", late.settles(1), 0);
        t.allowed(late, "year()", late.year() & 1, 1);
        t.allowed(late, "settles(0) from NOW", late.settles(0), 12);
        WellVoice x = Checks.of(EIGHT + Checks.ways(1, "ab bc") + ";voice v rover at d;voice w shy at a;voice y bold at c;folk m at a");
        t.allowed(x, "settles(0), no ways", x.settles(0), 0);
        t.allowed(x, "settles(1)", x.settles(1), 2);
        t.allowed(x, "settles(2)", x.settles(2), 2);
        b.sentence(21, "NONE: 1");
        for (int v : NO_VOICES) {
            t.refused(x, "settles(" + v + ")", x.settles(v), -1, 1);
        }
    }

    private void round() {
        b.sentence(22, "The least number of YEARS behind which they do then");
        WellVoice late = Checks.of(EIGHT + Checks.ways(1, "ed be dg cb cg ah hf cf ga hd") + ";voice v rover at d;voice w idle at d");
        t.allowed(late, "round(0), long", late.round(0), 15);
        t.allowed(late, "settles(0)", late.settles(0), 0);
        t.allowed(late, "round(1), it stays", late.round(1), 1);
        WellVoice tail = Checks.of(EIGHT + Checks.ways(1, "gb he gd ed hd fb ba ag fc hc") + ";voice v rover at e");
        t.allowed(tail, "round(0), behind a long tail", tail.round(0), 3);
        WellVoice x = Checks.of(EIGHT + Checks.ways(1, "ab bc") + ";voice v rover at d;voice w rover at a;voice y shy at a;folk m at a");
        t.allowed(x, "round(0), no ways", x.round(0), 1);
        t.allowed(x, "round(1), there and back", x.round(1), 4);
        t.allowed(x, "round(2), it stays then", x.round(2), 1);
        b.sentence(22, "NONE: 1");
        for (int v : NO_VOICES) {
            t.refused(x, "round(" + v + ")", x.round(v), -1, 1);
        }
    }
}
