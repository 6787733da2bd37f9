/** Promises 43 to 46: droughts by chance, and by draws. */
final class BoundsOfDroughts {
    private static final int[] NO_CAVES = {-1, 8, 9, 32, Integer.MIN_VALUE, Integer.MAX_VALUE};
    private static final int[] NO_SEEDS = {-1, 65537, 65538, Integer.MIN_VALUE, Integer.MAX_VALUE};

    private final Bounds b;
    private final Checks t;

    BoundsOfDroughts(Bounds b) {
        this.b = b;
        t = b.t;
    }

    void run() {
        within();
        mean();
        farBy();
        open();
    }

    private static WellVoice pair(int drought) {
        return Checks.of("well loud 5 errs 0 drought " + drought + ";cave a deep;cave b deep;way a b long 9 wet");
    }

    /** Seven caves in a row, all ways wet; the eighth apart. */
    private static WellVoice row(int drought) {
        return Checks.of("well loud 5 errs 0 drought " + drought + ";cave a deep;cave b deep;cave c deep;cave d deep;cave e deep;cave f deep"
            + ";cave g deep;cave h deep" + Checks.ways(20, "ab bc cd de ef fg").replace("dry", "wet"));
    }

    private void withinOf(WellVoice x, int c, int to, int much, long upper, long lower) {
        String call = "within(" + c + ", " + to + ", " + much;
        t.allowed(x, call + ", false)", x.within(c, to, much, false), upper);
        t.allowed(x, call + ", true)", x.within(c, to, much, true), lower);
    }

    private void meanOf(WellVoice x, int c, long upper, long lower) {
        t.allowed(x, "mean(" + c + ", false)", x.mean(c, false), upper);
        t.allowed(x, "mean(" + c + ", true)", x.mean(c, true), lower);
    }

    private void within() {
        b.sentence(43, "How likely it is no farther than so much (0 .. 200) from cave to cave in a DROUGHT, likewise");
        WellVoice x = pair(35);
        withinOf(x, 0, 1, 8, 0, 1);
        withinOf(x, 0, 1, 9, 7, 20);
        withinOf(x, 1, 0, 10, 7, 20);
        withinOf(x, 0, 1, 200, 7, 20);
        withinOf(x, 0, 1, 0, 0, 1);
        withinOf(x, 0, 0, 0, 1, 1);
        WellVoice six = row(1);
        withinOf(six, 0, 6, 119, 0, 1);
        withinOf(six, 0, 6, 120, 1, 1000000000000L);
        withinOf(six, 0, 7, 200, 0, 1);
        b.sentence(43, "DROUGHT by chance: each wet way, as likely as told, is dry, each for itself");
        withinOf(pair(0), 0, 1, 200, 0, 1);
        withinOf(pair(1), 0, 1, 200, 1, 100);
        withinOf(pair(99), 0, 1, 200, 99, 100);
        withinOf(pair(100), 0, 1, 200, 1, 1);
        withinOf(row(50), 0, 6, 200, 1, 64);
        withinOf(row(100), 0, 6, 120, 1, 1);
        WellVoice dug = pair(35);
        t.allowed(dug, "dig(0)", dug.dig(0));
        withinOf(dug, 0, 1, 9, 1, 1);
        t.allowed(dug, "flood(0)", dug.flood(0));
        withinOf(dug, 0, 1, 9, 7, 20);
        b.sentence(43, "-1: 1; 2");
        for (int c : NO_CAVES) {
            t.refused(six, "within(" + c + ", 0, 0, false)", six.within(c, 0, 0, false), -1, 1);
            t.refused(six, "within(0, " + c + ", 0, true)", six.within(0, c, 0, true), -1, 1);
            t.refused(six, "within(0, " + c + ", 201, true)", six.within(0, c, 201, true), -1, 1);
        }
        for (int much : new int[] {-1, 201, 202, Integer.MIN_VALUE, Integer.MAX_VALUE}) {
            t.refused(six, "within(0, 0, " + much + ", false)", six.within(0, 0, much, false), -1, 2);
            t.refused(six, "within(0, 0, " + much + ", true)", six.within(0, 0, much, true), -1, 2);
        }
        WellVoice no = new WellVoice();
        t.refused(no, "within(0, 0, 201, true) without a WELL", no.within(0, 0, 201, true), -1, 1);
    }

    private void mean() {
        b.sentence(44, "The mean of to how many caves there are dry ways from one in a DROUGHT (itself, too), likewise");
        meanOf(pair(0), 0, 1, 1);
        meanOf(pair(100), 0, 2, 1);
        meanOf(pair(50), 1, 3, 2);
        meanOf(row(0), 3, 1, 1);
        meanOf(row(100), 3, 7, 1);
        meanOf(row(100), 7, 1, 1);
        meanOf(row(1), 0, 1010101010101L, 1000000000000L);
        meanOf(Checks.of("well loud 0 errs 0 drought 50;cave a deep"), 0, 1, 1);
        b.sentence(44, "-1: 1");
        WellVoice six = row(50);
        for (int c : NO_CAVES) {
            t.refused(six, "mean(" + c + ", false)", six.mean(c, false), -1, 1);
            t.refused(six, "mean(" + c + ", true)", six.mean(c, true), -1, 1);
        }
        WellVoice no = new WellVoice();
        t.refused(no, "mean(0, true) without a WELL", no.mean(0, true), -1, 1);
    }

    private void farByOf(int drought, int seed, int want) {
        WellVoice x = pair(drought);
        t.allowed(x, "farBy(0, 1, " + seed + "), drought " + drought, x.farBy(0, 1, seed), want);
    }

    private void farBy() {
        b.sentence(45, "By a SEED: for each wet way, by numbers, a DRAW mod 100: below drought it is");
        // The first DRAW is 74 from 0, and 0 from 45,438.
        farByOf(74, 0, -2);
        farByOf(75, 0, 9);
        farByOf(0, 45438, -2);
        farByOf(1, 45438, 9);
        for (int seed = 0; seed <= 65536; seed += 4096) {
            farByOf(0, seed, -2);
            farByOf(100, seed, 9);
        }
        // From 0 on they are 74, 24, 52, 90, 41, 9: the second, fifth and sixth ways are dry.
        WellVoice six = row(50);
        int[] want = {-2, 20, -2, -2, 20, 20};
        for (int k = 0; k < 6; k++) {
            t.allowed(six, "farBy(" + k + ", " + (k + 1) + ", 0)", six.farBy(k, k + 1, 0), want[k]);
        }
        t.allowed(six, "dig(0), no DRAW for a dry way", six.dig(0));
        t.allowed(six, "farBy(1, 2, 0)", six.farBy(1, 2, 0), -2);
        t.allowed(six, "farBy(2, 3, 0)", six.farBy(2, 3, 0), 20);
        b.sentence(45, "(SEED becomes (75 times SEED and 74) mod 65,537)");
        // 872 gives 65,474; 873 gives 65,549, which is 12; 874 gives 87.
        farByOf(74, 872, -2);
        farByOf(75, 872, 9);
        farByOf(12, 873, -2);
        farByOf(13, 873, 9);
        farByOf(87, 874, -2);
        farByOf(88, 874, 9);
        b.sentence(45, "FAR in a DROUGHT by a SEED (0 .. 65,536); -2");
        // 65,535 gives 65,461, and 65,536 gives itself.
        farByOf(61, 65535, -2);
        farByOf(62, 65535, 9);
        farByOf(36, 65536, -2);
        farByOf(37, 65536, 9);
        WellVoice last = row(37);
        t.allowed(last, "farBy(0, 6, 65536), all dry", last.farBy(0, 6, 65536), 120);
        t.allowed(last, "farBy(0, 7, 65536), no ways", last.farBy(0, 7, 65536), -2);
        t.allowed(last, "farBy(7, 7, 0), there", last.farBy(7, 7, 0), 0);
        b.sentence(45, "NONE: 1; 2");
        for (int seed : NO_SEEDS) {
            t.refused(last, "farBy(0, 0, " + seed + ")", last.farBy(0, 0, seed), -1, 2);
        }
        for (int c : NO_CAVES) {
            t.refused(last, "farBy(" + c + ", 0, 0)", last.farBy(c, 0, 0), -1, 1);
            t.refused(last, "farBy(0, " + c + ", 65537)", last.farBy(0, c, 65537), -1, 1);
        }
    }

    private void open() {
        b.sentence(46, "In how many of n DROUGHTS (0 .. 60), one behind the other by a SEED, there is a dry way from cave to cave");
        WellVoice x = pair(50);
        t.allowed(x, "open(0, 1, 0, 0)", x.open(0, 1, 0, 0), 0);
        t.allowed(x, "open(0, 1, 0, 1)", x.open(0, 1, 0, 1), 0);
        t.allowed(x, "open(0, 1, 0, 2)", x.open(0, 1, 0, 2), 1);
        t.allowed(x, "open(0, 1, 0, 59)", x.open(0, 1, 0, 59), 35);
        t.allowed(x, "open(0, 1, 0, 60)", x.open(0, 1, 0, 60), 35);
        t.allowed(x, "open(0, 0, 0, 60), there", x.open(0, 0, 0, 60), 60);
        t.allowed(x, "open(0, 0, 0, 0)", x.open(0, 0, 0, 0), 0);
        // The DRAW that is 0 is the 46th from 0.
        WellVoice rare = pair(1);
        t.allowed(rare, "open(0, 1, 0, 45)", rare.open(0, 1, 0, 45), 0);
        t.allowed(rare, "open(0, 1, 0, 46)", rare.open(0, 1, 0, 46), 1);
        WellVoice never = pair(0);
        t.allowed(never, "open(0, 1, 65536, 60), drought 0", never.open(0, 1, 65536, 60), 0);
        WellVoice ever = pair(100);
        t.allowed(ever, "open(0, 1, 65536, 60), drought 100", ever.open(0, 1, 65536, 60), 60);
        WellVoice two = Checks.of("well loud 5 errs 0 drought 50;cave a deep;cave b deep;cave c deep;way a b long 1 wet;way b c long 1 wet");
        t.allowed(two, "open(0, 2, 0, 60), two DRAWS each", two.open(0, 2, 0, 60), 16);
        b.sentence(46, "NONE: 1; 2");
        for (int n : new int[] {-1, 61, 62, Integer.MIN_VALUE, Integer.MAX_VALUE}) {
            t.refused(x, "open(0, 1, 0, " + n + ")", x.open(0, 1, 0, n), -1, 2);
        }
        for (int seed : NO_SEEDS) {
            t.refused(x, "open(0, 1, " + seed + ", 0)", x.open(0, 1, seed, 0), -1, 2);
        }
        for (int c : new int[] {-1, 2, 3, 32, Integer.MIN_VALUE, Integer.MAX_VALUE}) {
            t.refused(x, "open(" + c + ", 1, 0, 0)", x.open(c, 1, 0, 0), -1, 1);
            t.refused(x, "open(0, " + c + ", 65537, 61)", x.open(0, c, 65537, 61), -1, 1);
        }
    }
}
