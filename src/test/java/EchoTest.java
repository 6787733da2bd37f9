/** Promises 27 to 33: echoes, where the first voice was, as odds, and the next stone. */
public final class EchoTest {
    private static final Checks t = new Checks();
    private static final String CAVES = ";cave a deep;cave b deep;cave c deep;cave d deep;cave e deep"
        + ";way a b long 2 dry;way b c long 3 dry;way c d long 4 wet;way d e long 1 dry";

    private static WellVoice well(int errs, String rest) {
        return Checks.of("well loud 5 errs " + errs + " drought 50" + CAVES + rest);
    }

    private static void odds(WellVoice x, int c, long upper, long lower) {
        t.allowed(x, "odds(" + c + ", false)", x.odds(c, false), upper);
        t.allowed(x, "odds(" + c + ", true)", x.odds(c, true), lower);
    }

    public static void main(String[] args) {
        echo();
        fitsAndOdds();
        noFits();
        stone();
        judge();
        withoutWell();
        t.finish("EchoTest");
    }

    private static void echo() {
        WellVoice x = well(0, ";voice v rover at a;voice w idle at d");
        t.allowed(x, "echo(0, 0)", x.echo(0, 0), 0);
        t.allowed(x, "echo(0, 2)", x.echo(0, 2), 10);
        t.allowed(x, "echo(1, 2), no dry ways", x.echo(1, 2), -2);
        t.allowed(x, "echo(1, 4)", x.echo(1, 4), 2);
        t.allowed(x, "year()", x.year(), 1);
        t.allowed(x, "dig(2)", x.dig(2));
        t.allowed(x, "echo(0, 2) NOW", x.echo(0, 2), 6);
        t.allowed(x, "echo(1, 2) NOW", x.echo(1, 2), 8);
        t.refused(x, "echo(2, 0)", x.echo(2, 0), -1, 1);
        t.refused(x, "echo(-1, 0)", x.echo(-1, 0), -1, 1);
        t.refused(x, "echo(0, 5)", x.echo(0, 5), -1, 1);
        t.refused(x, "echo(0, -1)", x.echo(0, -1), -1, 1);
    }

    private static void fitsAndOdds() {
        WellVoice sure = well(0, ";echo b after 4");
        t.allowed(sure, "fits(), none told wrongly", sure.fits(), 1);
        odds(sure, 0, 1, 1);
        odds(sure, 1, 0, 1);
        t.allowed(sure, "likeliest()", sure.likeliest(), 0);
        WellVoice all = well(30, "");
        t.allowed(all, "fits() without echoes", all.fits(), 31);
        odds(all, 4, 1, 5);
        t.allowed(all, "likeliest(), the first of like ones", all.likeliest(), 0);
        // By b after 4 it is in a, by c after 6 in b: 30 * 70 each, and 30 * 30 in the three others.
        WellVoice two = well(30, ";echo b after 4;echo c after 6;voice v rover at d");
        t.allowed(two, "fits()", two.fits(), 31);
        odds(two, 0, 7, 23);
        odds(two, 1, 7, 23);
        odds(two, 2, 3, 23);
        odds(two, 4, 3, 23);
        t.allowed(two, "likeliest()", two.likeliest(), 0);
        // All told wrongly: where the echo is as told it was not.
        WellVoice wrong = well(100, ";echo b after 4");
        t.allowed(wrong, "fits(), all told wrongly", wrong.fits(), 30);
        odds(wrong, 0, 0, 1);
        odds(wrong, 3, 1, 4);
        t.allowed(wrong, "likeliest()", wrong.likeliest(), 1);
        // All else as told at first, whatever went by.
        t.allowed(two, "dig(2)", two.dig(2));
        t.allowed(two, "flood(0)", two.flood(0));
        t.allowed(two, "year()", two.year(), 1);
        odds(two, 0, 7, 23);
        t.refused(two, "odds(5, true)", two.odds(5, true), -1, 1);
        t.refused(two, "odds(-1, false)", two.odds(-1, false), -1, 1);
        odds(two, 0, 7, 23);
    }

    private static void noFits() {
        WellVoice x = well(0, ";echo b after 4;echo c after 6;voice v idle at a");
        t.allowed(x, "fits(), none", x.fits(), 0);
        odds(x, 0, 0, 1);
        t.allowed(x, "likeliest(), none", x.likeliest(), -2);
        t.allowed(x, "stone(), none", x.stone(), -2);
        t.allowed(x, "stoneLeaves(), none", x.stoneLeaves(), -2);
    }

    private static void stone() {
        WellVoice x = well(30, "");
        t.allowed(x, "stone(), d and e share that there is none", x.stone(), 0);
        t.allowed(x, "stoneLeaves()", x.stoneLeaves(), 2);
        t.allowed(x, "dig(2)", x.dig(2));
        t.allowed(x, "stoneLeaves(), as told at first", x.stoneLeaves(), 2);
        // The middle of the star leaves three at most, a leaf of it two, the first of which is b.
        WellVoice star = Checks.of("well loud 5 errs 0 drought 0;cave m deep;cave b deep;cave c deep;cave d deep"
            + ";way m b long 1 dry;way m c long 1 dry;way m d long 1 dry");
        t.allowed(star, "stone() of a star", star.stone(), 1);
        t.allowed(star, "stoneLeaves() of a star", star.stoneLeaves(), 2);
        WellVoice one = well(0, ";echo b after 4");
        t.allowed(one, "stone(), one fits", one.stone(), 0);
        t.allowed(one, "stoneLeaves(), one fits", one.stoneLeaves(), 1);
        WellVoice some = well(0, ";echo e after 2;echo d after 0");
        t.allowed(some, "stoneLeaves(), d alone fits", some.stoneLeaves(), 1);
    }

    private static void judge() {
        WellVoice x = well(30, ";echo b after 4;echo c after 10;echo d after 4;voice v rover at a;voice w idle at b");
        t.allowed(x, "judge(), none heard where one is told", x.judge(), 2);
        t.allowed(x, "year()", x.year(), 1);
        t.allowed(x, "flood(0)", x.flood(0));
        t.allowed(x, "judge(), as told at first", x.judge(), 2);
        WellVoice first = well(30, ";echo b after 5;echo c after 11;voice v rover at a");
        t.allowed(first, "judge(), the first", first.judge(), 0);
        WellVoice right = well(30, ";echo b after 4;voice v rover at a");
        t.allowed(right, "judge(), none", right.judge(), -2);
        WellVoice none = well(30, ";echo b after 4");
        t.allowed(none, "judge(), no voice", none.judge(), -2);
    }

    private static void withoutWell() {
        WellVoice x = new WellVoice();
        t.refused(x, "fits()", x.fits(), -1, 1);
        t.refused(x, "odds(0, true)", x.odds(0, true), -1, 1);
        t.refused(x, "likeliest()", x.likeliest(), -1, 1);
        t.refused(x, "stone()", x.stone(), -1, 1);
        t.refused(x, "stoneLeaves()", x.stoneLeaves(), -1, 1);
        t.refused(x, "judge()", x.judge(), -1, 1);
        t.refused(x, "echo(0, 0)", x.echo(0, 0), -1, 1);
    }
}
