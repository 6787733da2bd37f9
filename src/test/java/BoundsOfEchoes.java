/** Promises 27 to 33: echoes, FITS, ODDS, STONE and the judge. */
final class BoundsOfEchoes {
    private static final String CAVES = ";cave a mouth;cave b deep;cave c deep;cave d deep;cave e deep;cave f deep;cave g deep"
        + ";cave h deep";
    private static final String ROW = CAVES + Checks.ways(1, "ab bc cd de ef fg gh");
    private static final int[] NO_CAVES = {-1, 8, 9, 32, Integer.MIN_VALUE, Integer.MAX_VALUE};

    private final Bounds b;
    private final Checks t;

    BoundsOfEchoes(Bounds b) {
        this.b = b;
        t = b.t;
    }

    void run() {
        echo();
        fits();
        odds();
        likeliest();
        stone();
        stoneLeaves();
        judge();
    }

    private static WellVoice well(int errs, String rest) {
        return Checks.of("well loud 5 errs " + errs + " drought 0" + rest);
    }

    private void oddsOf(WellVoice x, int c, long upper, long lower) {
        t.allowed(x, "odds(" + c + ", false)", x.odds(c, false), upper);
        t.allowed(x, "odds(" + c + ", true)", x.odds(c, true), lower);
    }

    private void echo() {
        b.sentence(27, "ECHO of a cave: 2 times FAR from there to the voice; none if there are no dry ways");
        WellVoice x = well(0, CAVES + Checks.ways(20, "ab bc cd de ef fg gh") + ";voice v idle at a;voice w idle at h");
        t.allowed(x, "echo(0, 0), it is there", x.echo(0, 0), 0);
        t.allowed(x, "echo(0, 7), the farthest", x.echo(0, 7), 280);
        t.allowed(x, "echo(1, 6)", x.echo(1, 6), 40);
        b.sentence(27, "-2 none");
        t.allowed(x, "flood(6)", x.flood(6));
        t.allowed(x, "echo(0, 7)", x.echo(0, 7), -2);
        t.allowed(x, "echo(1, 7)", x.echo(1, 7), 0);
        b.sentence(27, "NONE: 1");
        for (int v : new int[] {-1, 2, 3, 32, Integer.MIN_VALUE, Integer.MAX_VALUE}) {
            t.refused(x, "echo(" + v + ", 0)", x.echo(v, 0), -1, 1);
        }
        for (int c : NO_CAVES) {
            t.refused(x, "echo(0, " + c + ")", x.echo(0, c), -1, 1);
        }
    }

    private void fits() {
        b.sentence(28, "FITS: caves in which the first voice (were there none told, one) can have been at first, by all echoes told,"
            + " all else as told at first: each is told wrongly by errs, as likely as told");
        WellVoice all = well(0, ROW);
        t.allowed(all, "fits(), no echoes", all.fits(), 255);
        WellVoice right = well(0, ROW + ";echo c after 4");
        t.allowed(right, "fits(), errs 0", right.fits(), 1 | 16);
        WellVoice both = well(0, ROW + ";echo c after 4;echo e after 0");
        t.allowed(both, "fits(), errs 0, by both", both.fits(), 16);
        WellVoice none = well(0, ROW + ";echo c after 4;echo e after 2");
        t.allowed(none, "fits(), errs 0, none", none.fits(), 0);
        WellVoice odd = well(0, ROW + ";echo c after 3");
        t.allowed(odd, "fits(), an odd echo", odd.fits(), 0);
        WellVoice wrong = well(100, ROW + ";echo c after 4;echo e after 0;voice v rover at h;voice w idle at a");
        t.allowed(wrong, "fits(), errs 100", wrong.fits(), 255 ^ 17);
        WellVoice least = well(1, ROW + ";echo c after 3");
        t.allowed(least, "fits(), errs 1", least.fits(), 255);
        WellVoice most = well(99, ROW + ";echo c after 4");
        t.allowed(most, "fits(), errs 99", most.fits(), 255);
        WellVoice apart = well(0, CAVES + ";way a b long 1 wet;echo a after 0");
        t.allowed(apart, "fits(), no dry ways", apart.fits(), 1);
        t.allowed(apart, "dig(0)", apart.dig(0));
        t.allowed(apart, "fits() as told at first", apart.fits(), 1);
        t.allowed(wrong, "year()", wrong.year(), 1);
        t.allowed(wrong, "flood(2)", wrong.flood(2));
        t.allowed(wrong, "fits(), as told at first", wrong.fits(), 255 ^ 17);
        WellVoice four = well(0, ROW + ";echo a after 6;echo b after 4;echo c after 2;echo d after 2");
        t.allowed(four, "fits(), the fourth echo", four.fits(), 0);
        b.sentence(28, "NONE: 1 (no WELL)");
        WellVoice no = new WellVoice();
        t.refused(no, "fits()", no.fits(), -1, 1);
    }

    private void odds() {
        b.sentence(29, "each cave as likely ahead: ODDS by all");
        WellVoice all = well(7, ROW);
        oddsOf(all, 0, 1, 8);
        oddsOf(all, 7, 1, 8);
        WellVoice half = well(50, ROW + ";echo a after 0;echo b after 0");
        oddsOf(half, 0, 1, 8);
        oddsOf(half, 7, 1, 8);
        b.sentence(29, "ODDS of a cave, the upper WHOLE or the lower, in lowest terms");
        // By a all four are right, by c, e and g one of them, by the others none.
        WellVoice four = well(1, ROW + ";echo a after 0;echo b after 2;echo c after 4;echo d after 6");
        oddsOf(four, 0, 96059601, 96059902);
        oddsOf(four, 1, 1, 96059902);
        oddsOf(four, 2, 99, 96059902);
        WellVoice even = well(20, ROW + ";echo c after 4");
        oddsOf(even, 0, 2, 7);
        oddsOf(even, 1, 1, 14);
        WellVoice sure = well(0, ROW + ";echo a after 0");
        oddsOf(sure, 0, 1, 1);
        b.sentence(29, "(0 by 1; also without FITS)");
        oddsOf(sure, 1, 0, 1);
        oddsOf(sure, 7, 0, 1);
        WellVoice none = well(0, ROW + ";echo a after 1");
        for (int c = 0; c < 8; c++) {
            oddsOf(none, c, 0, 1);
        }
        WellVoice wrong = well(100, ";cave a deep;echo a after 0");
        oddsOf(wrong, 0, 0, 1);
        b.sentence(29, "-1: 1");
        for (int c : NO_CAVES) {
            t.refused(all, "odds(" + c + ", false)", all.odds(c, false), -1, 1);
            t.refused(all, "odds(" + c + ", true)", all.odds(c, true), -1, 1);
        }
        WellVoice no = new WellVoice();
        t.refused(no, "odds(0, true) without a WELL", no.odds(0, true), -1, 1);
    }

    private void likeliest() {
        b.sentence(30, "The likeliest cave, the first such");
        WellVoice all = well(7, ROW);
        t.allowed(all, "likeliest(), all alike", all.likeliest(), 0);
        WellVoice two = well(20, ROW + ";echo d after 2");
        t.allowed(two, "likeliest(), two such", two.likeliest(), 2);
        WellVoice last = well(20, ROW + ";echo a after 14");
        t.allowed(last, "likeliest(), the last", last.likeliest(), 7);
        WellVoice wrong = well(80, ROW + ";echo a after 0");
        t.allowed(wrong, "likeliest(), more often wrong than not", wrong.likeliest(), 1);
        WellVoice least = well(99, ";cave a deep;echo a after 0");
        t.allowed(least, "likeliest(), hardly", least.likeliest(), 0);
        b.sentence(30, "-2 no FITS");
        WellVoice none = well(0, ROW + ";echo a after 1");
        t.allowed(none, "likeliest()", none.likeliest(), -2);
        b.sentence(30, "NONE: 1 (no WELL)");
        WellVoice no = new WellVoice();
        t.refused(no, "likeliest()", no.likeliest(), -1, 1);
    }

    private void stone() {
        b.sentence(31, "STONE: the cave, mouth or deep, by whose ECHO, it (or that there is none) being told rightly, at most fewest FITS"
            + " are left, the first such");
        WellVoice row = well(7, ROW);
        t.allowed(row, "stone(), from the end all differ", row.stone(), 0);
        // From the middle a six others are as far; from a leaf five, and b is the first of these.
        WellVoice star = well(7, CAVES + Checks.ways(1, "ab ac ad ae af ag") + ";voice v idle at a");
        t.allowed(star, "stone(), a star and one apart", star.stone(), 1);
        WellVoice apart = well(7, ";cave a deep;cave b deep;cave c deep");
        t.allowed(apart, "stone(), none from all others", apart.stone(), 0);
        t.allowed(apart, "stoneLeaves()", apart.stoneLeaves(), 2);
        // c and d are alike from a and from b; c itself parts them, and need not fit.
        WellVoice part = well(0, ";cave a deep;cave b deep;cave c deep;cave d deep" + Checks.ways(1, "ab bc bd") + ";echo b after 2");
        t.allowed(part, "stone(), three fit", part.stone(), 0);
        t.allowed(part, "stoneLeaves()", part.stoneLeaves(), 2);
        WellVoice leaf = well(0, ";cave a deep;cave b deep;cave c deep;cave d deep" + Checks.ways(1, "ab bc bd") + ";echo a after 4");
        t.allowed(leaf, "stone(), c and d fit", leaf.stone(), 2);
        t.allowed(leaf, "stoneLeaves()", leaf.stoneLeaves(), 1);
        WellVoice one = well(0, ";cave a deep");
        t.allowed(one, "stone(), one cave", one.stone(), 0);
        b.sentence(31, "-2 no FITS");
        WellVoice none = well(0, ROW + ";echo a after 1");
        t.allowed(none, "stone()", none.stone(), -2);
        b.sentence(31, "NONE: 1 (no WELL)");
        WellVoice no = new WellVoice();
        t.refused(no, "stone()", no.stone(), -1, 1);
    }

    private void stoneLeaves() {
        b.sentence(32, "How many are left at most then; -2 likewise");
        WellVoice row = well(7, ROW);
        t.allowed(row, "stoneLeaves(), all differ", row.stoneLeaves(), 1);
        WellVoice star = well(7, CAVES + Checks.ways(1, "ab ac ad ae af ag") + ";voice v idle at a");
        t.allowed(star, "stoneLeaves(), a star and one apart", star.stoneLeaves(), 5);
        WellVoice apart = well(7, CAVES);
        t.allowed(apart, "stoneLeaves(), no ways", apart.stoneLeaves(), 7);
        WellVoice none = well(0, ROW + ";echo a after 1");
        t.allowed(none, "stoneLeaves(), no FITS", none.stoneLeaves(), -2);
        b.sentence(32, "NONE: 1 (no WELL)");
        WellVoice no = new WellVoice();
        t.refused(no, "stoneLeaves()", no.stoneLeaves(), -1, 1);
    }

    private void judge() {
        b.sentence(33, "The first echo, as told, that was told wrongly, the first voice being where it was told to be, all else as told"
            + " at first");
        WellVoice first = well(0, ROW + ";echo b after 3;echo c after 5;voice v idle at a");
        t.allowed(first, "judge(), both are wrong", first.judge(), 0);
        WellVoice last = well(100, ROW + ";echo a after 0;echo b after 2;echo c after 4;echo d after 7;voice v rover at a;voice w idle at d");
        t.allowed(last, "judge(), the fourth", last.judge(), 3);
        t.allowed(last, "year()", last.year(), 1);
        t.allowed(last, "flood(0)", last.flood(0));
        t.allowed(last, "judge(), as told at first", last.judge(), 3);
        WellVoice apart = well(0, CAVES + ";echo b after 0;voice v idle at a");
        t.allowed(apart, "judge(), no dry ways", apart.judge(), 0);
        b.sentence(33, "-2 none, or there is no voice");
        WellVoice right = well(100, ROW + ";echo a after 0;echo b after 2;voice v idle at a");
        t.allowed(right, "judge(), all are right", right.judge(), -2);
        WellVoice silent = well(0, ROW + ";voice v idle at a");
        t.allowed(silent, "judge(), no echoes", silent.judge(), -2);
        WellVoice empty = well(0, ROW + ";echo a after 1;folk m at a");
        t.allowed(empty, "judge(), no voice", empty.judge(), -2);
        b.sentence(33, "NONE: 1 (no WELL)");
        WellVoice no = new WellVoice();
        t.refused(no, "judge()", no.judge(), -1, 1);
    }
}
