/** Promises 38 to 42: an owner who follows and a voice that flees; a priest and a boy, their rests. */
public final class ChaseTest {
    private static final Checks t = new Checks();

    /** The ring a-b-c-d with a tail d-e-f, and g-h apart. */
    private static final String RING = "well loud 5 errs 0 drought 0;cave a deep;cave b deep;cave c deep;cave d deep"
        + ";cave e deep;cave f deep;cave g deep;cave h deep;way a b long 1 dry;way b c long 1 dry;way c d long 9 dry"
        + ";way d a long 1 dry;way d e long 1 dry;way e f long 1 dry;way g h long 1 dry;way f g long 1 wet";

    public static void main(String[] args) {
        chase();
        byTree();
        answers();
        rests();
        t.finish("ChaseTest");
    }

    private static void chase() {
        WellVoice x = Checks.of(RING);
        t.allowed(x, "chase(0, 0)", x.chase(0, 0), 0);
        t.allowed(x, "chaseBy(0, 0), he has it", x.chaseBy(0, 0), -2);
        t.allowed(x, "chase(0, 1)", x.chase(0, 1), 1);
        t.allowed(x, "chaseBy(0, 1)", x.chaseBy(0, 1), 1);
        t.allowed(x, "chase(0, 2), round the ring", x.chase(0, 2), -2);
        t.allowed(x, "chaseBy(0, 2)", x.chaseBy(0, 2), -2);
        t.allowed(x, "chase(3, 5), it is shut in", x.chase(3, 5), 2);
        t.allowed(x, "chaseBy(3, 5)", x.chaseBy(3, 5), 4);
        t.allowed(x, "chase(0, 5), it gets to the ring", x.chase(0, 5), 3);
        t.allowed(x, "chase(0, 6), no dry ways", x.chase(0, 6), -2);
        t.allowed(x, "flood(2)", x.flood(2));
        t.allowed(x, "chase(0, 2) NOW", x.chase(0, 2), 2);
        t.refused(x, "chase(8, 0)", x.chase(8, 0), -1, 1);
        t.refused(x, "chase(0, -1)", x.chase(0, -1), -1, 1);
        t.refused(x, "chaseBy(-1, 0)", x.chaseBy(-1, 0), -1, 1);
        t.refused(x, "chaseBy(0, 8)", x.chaseBy(0, 8), -1, 1);
        WellVoice none = new WellVoice();
        t.refused(none, "chase(0, 0)", none.chase(0, 0), -1, 1);
        t.refused(none, "chaseBy(0, 0)", none.chaseBy(0, 0), -1, 1);
    }

    private static void byTree() {
        // A row of five: the voice in the middle flees to the far end, where it is had.
        WellVoice row = Checks.of("well loud 5 errs 0 drought 0;cave a deep;cave b deep;cave c deep;cave d deep"
            + ";cave e deep;way a b long 1 dry;way b c long 1 dry;way c d long 1 dry;way d e long 1 dry");
        t.allowed(row, "chase(0, 2)", row.chase(0, 2), 4);
        t.allowed(row, "chaseBy(0, 2)", row.chaseBy(0, 2), 1);
        t.allowed(row, "chase(2, 4)", row.chase(2, 4), 2);
        // Two caves of the square a-b-c-d and its way a-c: from b both ends are one going away.
        WellVoice square = Checks.of("well loud 5 errs 0 drought 0;cave a deep;cave b deep;cave c deep;cave d deep"
            + ";way a b long 1 dry;way b c long 1 dry;way c d long 1 dry;way d a long 1 dry;way a c long 1 dry");
        t.allowed(square, "chase(1, 3)", square.chase(1, 3), 2);
        t.allowed(square, "chaseBy(1, 3), the first such", square.chaseBy(1, 3), 0);
    }

    private static void answers() {
        WellVoice x = Checks.of(RING);
        t.allowed(x, "both answer", x.answers(9, true, true, false), 2);
        t.allowed(x, "both answer, the boy", x.answers(9, true, true, true), 2);
        t.allowed(x, "the priest alone", x.answers(9, true, false, false), 3);
        t.allowed(x, "the priest alone, the boy", x.answers(9, true, false, true), -9);
        t.allowed(x, "the boy alone", x.answers(4, false, true, false), -4);
        t.allowed(x, "the boy alone, the boy", x.answers(4, false, true, true), 3);
        t.allowed(x, "neither", x.answers(0, false, false, false), 1);
        t.allowed(x, "neither, the boy", x.answers(0, false, false, true), 1);
        t.allowed(x, "no fear", x.answers(0, false, true, false), 0);
        t.refused(x, "answers, fear 10", x.answers(10, true, true, true), -100, 2);
        t.refused(x, "answers, fear -1", x.answers(-1, true, true, true), -100, 2);
        t.allowed(x, "answers behind a refused one", x.answers(1, true, true, true), 2);
        WellVoice none = new WellVoice();
        t.refused(none, "answers without a WELL", none.answers(10, true, true, true), -100, 1);
    }

    private static void rests() {
        WellVoice x = Checks.of(RING);
        for (int fear = 0; fear <= 9; fear++) {
            t.allowed(x, "rests(" + fear + ")", x.rests(fear), 1);
            t.allowed(x, "rest(" + fear + ")", x.rest(fear), 11);
        }
        t.refused(x, "rests(10)", x.rests(10), -1, 2);
        t.refused(x, "rests(-1)", x.rests(-1), -1, 2);
        t.refused(x, "rest(10)", x.rest(10), -1, 2);
        t.refused(x, "rest(-1)", x.rest(-1), -1, 2);
        t.allowed(x, "rest behind a refused one", x.rest(1), 11);
        WellVoice none = new WellVoice();
        t.refused(none, "rests(0) without a WELL", none.rests(0), -1, 1);
        t.refused(none, "rest(10) without a WELL", none.rest(10), -1, 1);
    }
}
