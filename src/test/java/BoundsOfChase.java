/** Promises 38 to 42: an owner who follows, a voice that flees; a priest and a boy. */
final class BoundsOfChase {
    private static final String EIGHT = "well loud 5 errs 0 drought 0;cave a deep;cave b deep;cave c deep;cave d deep;cave e deep"
        + ";cave f deep;cave g deep;cave h deep";
    private static final String ROW = EIGHT + Checks.ways(3, "ab bc cd de ef fg gh");
    private static final int[] NO_CAVES = {-1, 8, 9, 32, Integer.MIN_VALUE, Integer.MAX_VALUE};
    private static final int[] NO_FEAR = {-1, 10, 11, Integer.MIN_VALUE, Integer.MAX_VALUE};

    private final Bounds b;
    private final Checks t;

    BoundsOfChase(Bounds b) {
        this.b = b;
        t = b.t;
    }

    void run() {
        chase();
        chaseBy();
        answers();
        rests();
        rest();
    }

    private void chase() {
        b.sentence(38, "CHASE: of how many goings the owner needs (0 they are in one cave)");
        WellVoice row = Checks.of(ROW);
        for (int c = 0; c < 8; c++) {
            t.allowed(row, "chase(" + c + ", " + c + ")", row.chase(c, c), 0);
        }
        t.allowed(row, "chase(0, 1), beside it", row.chase(0, 1), 1);
        for (int c = 2; c < 8; c++) {
            t.allowed(row, "chase(0, " + c + "), it flees to the end", row.chase(0, c), 7);
        }
        t.allowed(row, "chase(7, 0)", row.chase(7, 0), 7);
        t.allowed(row, "chase(3, 5)", row.chase(3, 5), 4);
        t.allowed(row, "chase(4, 2)", row.chase(4, 2), 4);
        b.sentence(38, "CHASE: an owner in a cave and a voice by turns, the owner first: each goes to a NEIGHBOUR or stays; he has it if they"
            + " are in one cave; he wants that within the fewest of his goings, it wants most, or never");
        // It may stay at an end, so that he needs as many as it is caves away; and it may not leap over him.
        WellVoice ends = Checks.of(EIGHT + Checks.ways(20, "ab bc"));
        t.allowed(ends, "chase(0, 2), it stays", ends.chase(0, 2), 2);
        t.allowed(ends, "chase(1, 2), he is first", ends.chase(1, 2), 1);
        // In a star it flees over the middle, but he is there.
        WellVoice star = Checks.of(EIGHT + Checks.ways(1, "ab ac ad ae"));
        t.allowed(star, "chase(1, 2), he waits in the middle", star.chase(1, 2), 2);
        t.allowed(star, "chaseBy(1, 2)", star.chaseBy(1, 2), 0);
        b.sentence(38, "-2 he never has it");
        t.allowed(row, "flood(3)", row.flood(3));
        t.allowed(row, "chase(0, 7), no dry ways", row.chase(0, 7), -2);
        WellVoice ring = Checks.of(EIGHT + Checks.ways(1, "ab bc cd de ef fg gh ha"));
        t.allowed(ring, "chase(0, 2), round and round", ring.chase(0, 2), -2);
        t.allowed(ring, "chase(0, 7), beside it", ring.chase(0, 7), 1);
        WellVoice square = Checks.of(EIGHT + Checks.ways(1, "ab bc cd da"));
        t.allowed(square, "chase(0, 2), the least such ring", square.chase(0, 2), -2);
        WellVoice three = Checks.of(EIGHT + Checks.ways(1, "ab bc ca ad"));
        t.allowed(three, "chase(3, 1), a ring of three", three.chase(3, 1), 2);
        b.sentence(38, "NONE: 1");
        for (int c : NO_CAVES) {
            t.refused(row, "chase(" + c + ", 0)", row.chase(c, 0), -1, 1);
            t.refused(row, "chase(0, " + c + ")", row.chase(0, c), -1, 1);
            t.refused(row, "chase(" + c + ", " + c + ")", row.chase(c, c), -1, 1);
        }
    }

    private void chaseBy() {
        b.sentence(39, "Where the owner goes first in that, the first such (where he is, if he stays, ahead of all; then by numbers)");
        WellVoice row = Checks.of(ROW);
        t.allowed(row, "chaseBy(0, 7)", row.chaseBy(0, 7), 1);
        t.allowed(row, "chaseBy(7, 0)", row.chaseBy(7, 0), 6);
        t.allowed(row, "chaseBy(7, 6), to it", row.chaseBy(7, 6), 6);
        t.allowed(row, "chaseBy(1, 0), to the first", row.chaseBy(1, 0), 0);
        t.allowed(row, "chaseBy(3, 5), not to the first neighbour", row.chaseBy(3, 5), 4);
        t.allowed(row, "chaseBy(3, 1)", row.chaseBy(3, 1), 2);
        // Over c or over d he shuts it in.
        WellVoice like = Checks.of(EIGHT + Checks.ways(1, "ac ad cb db cd"));
        t.allowed(like, "chaseBy(0, 1), two such", like.chaseBy(0, 1), 2);
        t.allowed(like, "chase(0, 1)", like.chase(0, 1), 2);
        b.sentence(39, "-2 he never has it, or has it");
        t.allowed(row, "chaseBy(3, 3)", row.chaseBy(3, 3), -2);
        WellVoice ring = Checks.of(EIGHT + Checks.ways(1, "ab bc cd da"));
        t.allowed(ring, "chaseBy(0, 2)", ring.chaseBy(0, 2), -2);
        t.allowed(ring, "chaseBy(0, 7)", ring.chaseBy(0, 7), -2);
        b.sentence(39, "NONE: 1");
        for (int c : NO_CAVES) {
            t.refused(row, "chaseBy(" + c + ", 0)", row.chaseBy(c, 0), -1, 1);
            t.refused(row, "chaseBy(0, " + c + ")", row.chaseBy(0, c), -1, 1);
        }
    }

    private void answers() {
        b.sentence(40, "both answer: 2 each; one alone: he has 3, the other one 0 less fear; neither: 1 each");
        WellVoice x = Checks.of(ROW);
        for (int fear = 0; fear <= 9; fear++) {
            for (int pair = 0; pair < 8; pair++) {
                boolean priest = (pair & 1) != 0;
                boolean boy = (pair & 2) != 0;
                boolean ofBoy = (pair & 4) != 0;
                int want = priest && boy ? 2 : !priest && !boy ? 1 : (ofBoy ? boy : priest) ? 3 : 0 - fear;
                t.allowed(x, "answers(" + fear + ", " + priest + ", " + boy + ", " + ofBoy + ")",
                    x.answers(fear, priest, boy, ofBoy), want);
            }
        }
        b.sentence(40, "fear is so much (0 .. 9). -100: 1 (no WELL); 2");
        for (int fear : NO_FEAR) {
            t.refused(x, "answers(" + fear + ", ..)", x.answers(fear, true, true, false), -100, 2);
        }
        WellVoice no = new WellVoice();
        t.refused(no, "answers(0, ..)", no.answers(0, true, true, false), -100, 1);
        t.refused(no, "answers(10, ..)", no.answers(10, true, true, false), -100, 1);
    }

    private void rests() {
        b.sentence(41, "REST: a pair by which neither could have more alone");
        WellVoice x = Checks.of(ROW);
        for (int fear = 0; fear <= 9; fear++) {
            t.allowed(x, "rests(" + fear + ")", x.rests(fear), 1);
        }
        b.sentence(41, "NONE: 1 (no WELL); 2");
        for (int fear : NO_FEAR) {
            t.refused(x, "rests(" + fear + ")", x.rests(fear), -1, 2);
        }
        WellVoice no = new WellVoice();
        t.refused(no, "rests(0)", no.rests(0), -1, 1);
        t.refused(no, "rests(-1)", no.rests(-1), -1, 1);
    }

    private void rest() {
        b.sentence(42, "The first (tongues held ahead, the priest's first): 10 if the priest answers, and 1 if the boy does; -2");
        WellVoice x = Checks.of(ROW);
        for (int fear = 0; fear <= 9; fear++) {
            t.allowed(x, "rest(" + fear + ")", x.rest(fear), 11);
        }
        b.sentence(42, "NONE: likewise");
        for (int fear : NO_FEAR) {
            t.refused(x, "rest(" + fear + ")", x.rest(fear), -1, 2);
        }
        WellVoice no = new WellVoice();
        t.refused(no, "rest(9)", no.rest(9), -1, 1);
        t.refused(no, "rest(10)", no.rest(10), -1, 1);
    }
}
