/** The edges of promises 7 to 10: goings, years, holes that are stopped up, seasons. */
public final class GoingEdges extends Edges {
    public static void main(String[] args) throws Exception {
        run(GoingEdges.class, 7, 10);
    }

    // ---- promise 7: go

    @Says("One FITS a HOLE, if there is one and it is no less than he is THICK")
    static void promise7_justAsGreatAsHeIsThick() {
        for (int width = 1; width <= 9; width++) {
            of("h2" + width + ";g" + width + "0").due(0, "go", 0, 1);
            if (width < 9) {
                of("h2" + width + ";g" + (width + 1) + "0").refused(STATE, "go", 0, 1);
                of("h2" + width + ";t" + (width + 1) + "0").due(0, "go", 0, 1);
            }
            if (width < 8) {
                of("h2" + width + ";t" + (width + 2) + "0").refused(STATE, "go", 0, 1);
            }
        }
        of("h24;c90").due(0, "go", 0, 1);
        of("h23;c90").refused(STATE, "go", 0, 1);
        of("h23;c70").due(0, "go", 0, 1);
    }

    @Says("One FITS a HOLE, if there is one")
    static void promise7_thickAsNothingHeStillNeedsAHole() {
        of("h20;t10;c10").refused(STATE, "go", 0, 1).refused(STATE, "go", 1, 1);
        of("h21;t10;c10").due(1, "go", 0, 1).due(1, "go", 1, 1);
    }

    @Says("A GOER GOES to a FIELD: how much greater the HOLE is than he is THICK")
    static void promise7_howMuchGreater0To9() {
        of("h29;g90;t10;c10;g10").due(0, "go", 0, 1).due(9, "go", 1, 1).due(9, "go", 2, 1).due(8, "go", 3, 1);
    }

    @Says("A GOER GOES to another FIELD by the HOLE between, if he FITS it; the HOLE is WORN")
    static void promise7_theHoleBetweenAlone() {
        // From 0 to 2 there is a way by 1, but no hole between.
        of("h3909;g10").refused(STATE, "go", 0, 2).due(8, "go", 0, 1).due(8, "go", 0, 2).asked(2, "ofGoer", 0, 3)
            .refused(STATE, "go", 0, 0);
    }

    @Says("the HOLE is WORN")
    static void promise7_wornAndAsGreatAsItWas() {
        for (int to = 1; to < 5; to++) {
            Run run = of(open(5, 6, ";g50;g50")).due(1, "go", 1, to).widths(6, 6, 6, 6, 6, 6, 6, 6, 6, 6)
                .asked(to, "ofGoer", 1, 3).asked(0, "ofGoer", 0, 3).asked(1, "many", 3);
            for (int other = 1; other < 5; other++) {
                run.asked(other == to ? 1 : 0, "hole", 0, other, 1);
            }
            run.asked(0, "hole", 1, 2, 1).asked(0, "hole", 3, 4, 1);
        }
    }

    @Says("UNKNOWN: GOER, FIELD")
    static void promise7_unknownGoer() {
        unknownGoer("go", 0, 1);
        unknownGoer("go", 0, 0);
    }

    @Says("UNKNOWN: GOER, FIELD")
    static void promise7_unknownField() {
        unknownField(1, "go", 0, 0);
    }

    @Says("STATE: he is there, there is no HOLE, he does not FIT")
    static void promise7_stateHeIsThere() {
        busy().refused(STATE, "go", 0, 0).refused(STATE, "go", 1, 2).refused(STATE, "go", 2, 1).refused(STATE, "go", 3, 3);
    }

    @Says("STATE: he is there, there is no HOLE, he does not FIT")
    static void promise7_stateThereIsNoHole() {
        busy().refused(STATE, "go", 0, 2).refused(STATE, "go", 1, 0).refused(STATE, "go", 2, 2);
    }

    @Says("STATE: he is there, there is no HOLE, he does not FIT")
    static void promise7_stateHeDoesNotFit() {
        busy().refused(STATE, "go", 1, 3).refused(STATE, "go", 3, 2).refused(STATE, "go", 3, 1).refused(STATE, "go", 2, 3);
    }

    // ---- promise 8: years

    @Says("n YEARS (1 .. 60): how many HOLES there are then")
    static void promise8_n1To60() {
        busy().due(4, "years", 1).asked(2, "many", 2);
        busy().due(0, "years", 60).asked(61, "many", 2).due(0, "years", 60).asked(121, "many", 2).widths(0, 0, 0, 0, 0, 0);
        for (int n : beyond(1, 60)) {
            busy().refused(OUTSIDE, "years", n);
        }
    }

    @Says("how many HOLES there are then")
    static void promise8_fromNoneToTenHoles() {
        of(open(5, 2, ";g10")).due(10, "years", 1).due(0, "years", 1).due(0, "years", 1);
        of(open(5, 1, ";g10")).due(0, "go", 0, 1).due(1, "years", 1);
        of("h20;g10").due(0, "years", 1);
    }

    @Says("each HOLE that is WORN is 1 greater (9 at most)")
    static void promise8_aWornHoleIs9AtMost() {
        of("h28;g10").due(7, "go", 0, 1).due(1, "years", 1).widths(9).due(8, "go", 0, 0).due(1, "years", 1).widths(9)
            .due(9, "stop", 0, 1).due(8, "go", 0, 1).due(1, "years", 1).widths(9);
    }

    @Says("A YEAR: each HOLE that is WORN is 1 greater (9 at most)")
    static void promise8_aWornHoleIs1Greater() {
        for (int width = 1; width <= 9; width++) {
            of("h2" + width + ";g10").due(width - 1, "go", 0, 1).due(1, "years", 1).widths(Math.min(width + 1, 9));
        }
    }

    @Says("each other one 1 less (0: there is none any more)")
    static void promise8_anotherHoleIs1LessAndAtLast0() {
        of("h4987210;g10").due(4, "years", 1).widths(8, 7, 6, 1, 0, 0).due(3, "years", 1).widths(7, 6, 5, 0, 0, 0);
    }

    @Says("0: there is none any more")
    static void promise8_aHoleThatIsGrownOverIsNone() {
        of("h21;t10").due(0, "years", 1).refused(STATE, "go", 0, 1).refused(STATE, "stop", 0, 1).asked(0, "widest", 0, 1)
            .asked(NONE, "way", 0, 1, -1).asked(NONE, "widen", 0, 1);
    }

    @Says("none is WORN then")
    static void promise8_wornForTheFirstOfSeveralYearsAlone() {
        of("h25;g10").due(4, "go", 0, 1).due(1, "years", 1).asked(0, "hole", 0, 1, 1).due(1, "years", 1).widths(5);
        of("h25;g10").due(4, "go", 0, 1).due(1, "years", 2).asked(0, "hole", 0, 1, 1).widths(5);
        of("h29;g10").due(8, "go", 0, 1).due(1, "years", 9).widths(1).due(0, "years", 1);
    }

    @Says("OUTSIDE; STATE: there is no COUNTY")
    static void promise8_outsideAheadOfState() {
        fresh().refused(STATE, "years", 1).refused(STATE, "years", 60);
        for (int n : beyond(1, 60)) {
            fresh().refused(OUTSIDE, "years", n);
        }
        fresh().notTaken(6, "h25;g3").refused(STATE, "years", 1);
    }

    // ---- promise 9: stop

    @Says("A HOLE (there is one) is STOPPED up: the hedge comes down: it is 9")
    static void promise9_from1To9ItIs9() {
        for (int width = 1; width <= 9; width++) {
            of("h2" + width + ";g10").due(width, "stop", 0, 1).widths(9).due(9, "stop", 1, 0).widths(9)
                .asked(0, "hole", 0, 1, 1);
        }
    }

    @Says("STATE: there is none")
    static void promise9_stateThereIsNone() {
        busy().refused(STATE, "stop", 0, 2).refused(STATE, "stop", 2, 0).refused(STATE, "stop", 1, 2);
        of("h21;g10").due(1, "hoop", 0, 1, 0).refused(STATE, "stop", 0, 1);
    }

    @Says("UNKNOWN: either, both the same")
    static void promise9_unknownEitherOrTheSame() {
        unknownEither(0, "stop", 0, 0);
    }

    @Says("A HOLE is STOPPED up: what it was")
    static void promise9_noOtherHole() {
        of("h51234567890;g10").due(8, "stop", 3, 2).widths(1, 2, 3, 4, 5, 6, 7, 9, 9, 0);
    }

    // ---- promise 10: season

    /** A season of twenty pairs: one goes to and fro between fields 0 and 1. */
    private static int[] toAndFro() {
        int[] cells = new int[40];
        for (int p = 0; p < 20; p++) {
            cells[2 * p + 1] = (p + 1) % 2;
        }
        return cells;
    }

    @Says("OUTSIDE: lane, n (0 .. 20), what (0 .. 4, 10 .. 14)")
    static void promise10_n0To20() {
        Run run = of("h29;g10").row(1, 2, toAndFro()).asked(0, "season", 1, 2, 0, 0, 3).asked(20, "season", 1, 2, 0, 20, 3);
        for (int n : beyond(0, 20)) {
            run.refused(OUTSIDE, "season", 1, 2, 0, n, 3);
        }
        busy().due(1, "sheet", 1, 2, 60).refused(OUTSIDE, "season", 1, 2, 0, 21, 1)
            .refused(OUTSIDE, "season", 1, 2, 0, 30, 1);
    }

    @Says("OUTSIDE: lane, n (0 .. 20), what (0 .. 4, 10 .. 14)")
    static void promise10_what0To4And10To14() {
        int[] answers = {4, NONE, 1, 0, 15};
        int[] fields = {0, 2, 1, 3, NONE};
        for (int what = 0; what < 5; what++) {
            busy().season(answers[what], what).season(fields[what], 10 + what);
        }
        for (int what : new int[] {MIN, -1, 5, 6, 7, 8, 9, 15, 256, 266, 65536, MAX}) {
            busy().refused(OUTSIDE, "season", 1, 2, 0, 0, what);
        }
    }

    @Says("OUTSIDE: lane")
    static void promise10_lane0To2() {
        for (int lane = 0; lane < 3; lane++) {
            of(FOUR).row(3, lane, 0, 1).asked(1, "season", 3, lane, 0, 1, 3);
        }
        for (int lane : beyond(0, 2)) {
            busy().refused(OUTSIDE, "season", 1, lane, 0, 0, 0);
        }
    }

    @Says("UNKNOWN: SHEET; OUTSIDE: lane, n (0 .. 20), what (0 .. 4, 10 .. 14); FAULTS CAST, NULL, INDEX")
    static void promise10_unknownAheadOfOutside() {
        for (int sheet : beyond(0, 3)) {
            busy().refused(UNKNOWN, "season", sheet, 2, 0, 0, 0).refused(UNKNOWN, "season", sheet, 3, 0, 0, 0)
                .refused(UNKNOWN, "season", sheet, 0, 0, 21, 0).refused(UNKNOWN, "season", sheet, 0, 0, 0, 5)
                .refused(UNKNOWN, "season", sheet, 3, -1, -1, -1);
        }
        fresh().refused(UNKNOWN, "season", 4, 0, 0, 0, 0);
    }

    @Says("OUTSIDE: lane, n (0 .. 20), what (0 .. 4, 10 .. 14); FAULTS CAST, NULL, INDEX; STATE: there is no COUNTY")
    static void promise10_outsideAheadOfFaultsAndState() {
        // Sheet 1 has ints, sheet 3 nothing.
        busy().refused(OUTSIDE, "season", 1, 3, 0, 0, 0).refused(OUTSIDE, "season", 3, 0, 0, 21, 0)
            .refused(OUTSIDE, "season", 3, 0, 0, -1, 0).refused(OUTSIDE, "season", 1, 2, 9, 1, 5)
            .refused(OUTSIDE, "season", 1, 0, 0, 0, 15).refused(OUTSIDE, "season", 1, 2, -1, 21, 0);
        fresh().refused(OUTSIDE, "season", 0, 3, 0, 0, 0).refused(OUTSIDE, "season", 0, 0, 0, 21, 0)
            .refused(OUTSIDE, "season", 0, 0, 0, 0, 9);
    }

    @Says("FAULTS CAST, NULL, INDEX")
    static void promise10_castAheadOfIndex() {
        for (int lane = 0; lane < 3; lane++) {
            for (int as = 0; as < 3; as++) {
                if (lane != as) {
                    busy().row(3, lane, 0, 3).faulted(CAST, "season", 3, as, 0, 1, 0)
                        .faulted(CAST, "season", 3, as, 1, 1, 0).faulted(CAST, "season", 3, as, -1, 0, 1);
                }
            }
        }
    }

    @Says("FAULTS CAST, NULL, INDEX")
    static void promise10_nullAheadOfIndex() {
        for (int as = 0; as < 3; as++) {
            busy().faulted(NULL, "season", 3, as, 0, 0, 0).faulted(NULL, "season", 3, as, -1, 1, 1);
        }
    }

    @Says("A SEASON of n pairs, that are cells of a SHEET from i on (2 n)")
    static void promise10_indexOfTwiceNCells() {
        Run run = busy().row(3, 2, 0, 0, 10, 0, 10);
        run.asked(0, "season", 3, 2, 0, 1, 1).asked(NONE, "season", 3, 2, 1, 2, 1).asked(NONE, "season", 3, 2, 3, 1, 1)
            .faulted(INDEX, "season", 3, 2, 4, 1, 1).faulted(INDEX, "season", 3, 2, 2, 2, 1)
            .faulted(INDEX, "season", 3, 2, 0, 3, 1).faulted(INDEX, "season", 3, 2, -1, 1, 1)
            .faulted(INDEX, "season", 3, 2, 5, 1, 1).faulted(INDEX, "season", 3, 2, MAX, 1, 1)
            .faulted(INDEX, "season", 3, 2, MAX, 20, 1).faulted(INDEX, "season", 3, 2, MIN, 20, 1);
    }

    @Says("of cells from i on also where i is not 0 .. how many there are, if none of them is taken, too")
    static void promise10_indexIfNoneIsTaken() {
        busy().row(3, 2, 0, 0, 0).asked(4, "season", 3, 2, 0, 0, 0).asked(4, "season", 3, 2, 3, 0, 0)
            .faulted(INDEX, "season", 3, 2, 4, 0, 0).faulted(INDEX, "season", 3, 2, -1, 0, 0)
            .faulted(INDEX, "season", 3, 2, MAX, 0, 0).faulted(INDEX, "season", 3, 2, MIN, 0, 0);
        busy().row(3, 2).asked(4, "season", 3, 2, 0, 0, 0).faulted(INDEX, "season", 3, 2, 1, 0, 0);
    }

    @Says("that are cells of a SHEET from i on (2 n)")
    static void promise10_theLastCellsOfAFullRow() {
        Run run = of("h29;g10").due(1, "sheet", 1, 0, 60);
        int[] cells = toAndFro();
        for (int i = 0; i < 40; i++) {
            run.due(1, "put", 1, 20 + i, cells[i]);
        }
        run.asked(20, "season", 1, 0, 20, 20, 3).faulted(INDEX, "season", 1, 0, 21, 20, 3);
    }

    @Says("FAULTS CAST, NULL, INDEX; STATE: there is no COUNTY")
    static void promise10_faultsAheadOfState() {
        fresh().row(0, 1, 0, 0).faulted(NULL, "season", 1, 1, 0, 1, 0).faulted(CAST, "season", 0, 2, 0, 1, 0)
            .faulted(INDEX, "season", 0, 1, 1, 1, 0).refused(STATE, "season", 0, 1, 0, 1, 0)
            .refused(STATE, "season", 0, 1, 0, 0, 1);
    }

    @Says("STATE: there is no COUNTY; pair by pair OUTSIDE")
    static void promise10_stateAheadOfPairs() {
        fresh().season(STATE, 0, 0, 5).season(STATE, 0, 10, 10).season(STATE, 1, 9, 0);
    }

    @Says("pair by pair OUTSIDE: the second is none of 0 .. 4, 10, 20")
    static void promise10_theSecondOfAPair() {
        for (int second = -3; second <= 30; second++) {
            if (second < 0 || second > 4 && second != 10 && second != 20) {
                busy().season(OUTSIDE, 1, 0, second).season(OUTSIDE, 0, 0, second);
            }
        }
        for (int second : new int[] {MIN, 256, 266, 276, 65536, 65546, MAX}) {
            busy().season(OUTSIDE, 1, 0, second);
        }
        of(open(5, 9, ";g10")).season(0, 1, 0, 0).season(NONE, 1, 0, 1).season(NONE, 1, 0, 4).season(NONE, 1, 0, 10)
            .season(NONE, 1, 0, 20);
    }

    @Says("it is 10 or 20 and the first is not 0 .. 9")
    static void promise10_theFirstOfYearsAndOfHedges() {
        for (int first : beyond(0, 9)) {
            busy().season(OUTSIDE, 1, first, 10).season(OUTSIDE, 1, first, 20);
        }
        of(open(5, 9, ";g10")).season(NONE, 1, 0, 10).season(NONE, 1, 9, 10).season(NONE, 1, 0, 20).season(NONE, 1, 9, 20);
    }

    @Says("UNKNOWN: the first is no GOER (of 0 .. 4)")
    static void promise10_theFirstIsNoGoer() {
        for (int goers = 1; goers <= 5; goers++) {
            of("h25" + ";g30".repeat(goers)).season(NONE, 1, goers - 1, 1);
            for (int first : beyond(0, goers - 1)) {
                of("h25" + ";g30".repeat(goers)).season(UNKNOWN, 1, first, 1).season(UNKNOWN, 0, first, 4);
            }
        }
    }

    @Says("pair by pair OUTSIDE: the second is none of 0 .. 4, 10, 20, it is 10 or 20 and the first is not 0 .. 9; UNKNOWN")
    static void promise10_outsideAheadOfUnknownInAPair() {
        busy().season(OUTSIDE, 1, 4, 5).season(OUTSIDE, 1, -1, -1).season(OUTSIDE, 1, 10, 10).season(OUTSIDE, 1, -1, 20);
    }

    @Says("pair by pair")
    static void promise10_theFirstPairThatIsRefused() {
        busy().season(UNKNOWN, 1, 4, 0, 0, 5).season(OUTSIDE, 1, 0, 5, 4, 0).season(UNKNOWN, 1, 0, 10, 4, 1, 10, 10)
            .season(OUTSIDE, 1, 0, 10, 10, 20, 4, 1);
        int[] cells = toAndFro();
        cells[39] = 5;
        of("h29;g10").season(OUTSIDE, 3, cells);
        cells[38] = 1;
        cells[39] = 0;
        of("h29;g10").season(UNKNOWN, 3, cells);
    }

    @Says("pair by pair")
    static void promise10_refusedThoughAnActAheadCannotBe() {
        busy().season(OUTSIDE, 0, 0, 0, 0, 5).season(OUTSIDE, 1, 0, 0, 0, 5).season(UNKNOWN, 1, 0, 0, 4, 1);
    }

    @Says("FIRST WRONG: the first act that can't be (there is no such FIELD")
    static void promise10_wrongNoSuchField() {
        for (int fields = 2; fields <= 5; fields++) {
            for (int to = 1; to <= 4; to++) {
                of(open(fields, 9, ";g10")).season(to < fields ? NONE : 0, 1, 0, to);
            }
        }
    }

    @Says("there is no such FIELD, HEDGE, no HOLE")
    static void promise10_wrongNoSuchHedge() {
        for (int fields = 2; fields <= 5; fields++) {
            for (int hedge = 0; hedge <= 9; hedge++) {
                of(open(fields, 1, ";g10")).season(hedge < hedges(fields) ? NONE : 0, 1, hedge, 20);
            }
        }
    }

    @Says("there is no such FIELD, HEDGE, no HOLE; he is there, does not FIT")
    static void promise10_wrongNoHole() {
        of("h3010;t10").season(0, 1, 0, 20).season(NONE, 1, 1, 20).season(0, 1, 0, 1).season(NONE, 1, 0, 2);
        of("h21;t10").season(1, 1, 1, 10, 0, 1).season(1, 1, 1, 10, 0, 20).season(NONE, 1, 0, 10, 0, 1);
    }

    @Says("he is there, does not FIT")
    static void promise10_wrongHeIsThere() {
        of("h29;g10").season(0, 1, 0, 0).season(1, 1, 0, 1, 0, 1).season(NONE, 1, 0, 1, 0, 0).season(2, 1, 0, 1, 0, 0, 0, 0);
    }

    @Says("he is there, does not FIT")
    static void promise10_wrongHeDoesNotFit() {
        of("h25;g60;g50").season(0, 1, 0, 1).season(NONE, 1, 1, 1).season(NONE, 1, 1, 1, 1, 10, 0, 1)
            .season(1, 1, 1, 1, 0, 1).season(NONE, 1, 0, 20, 0, 1).season(1, 1, 1, 10, 1, 1);
    }

    @Says("of one with a FIRST WRONG: -100 less that (but what 1)")
    static void promise10_firstWrongFrom0To19() {
        for (int wrong = 0; wrong < 20; wrong++) {
            int[] cells = toAndFro();
            cells[2 * wrong + 1] = 1 - cells[2 * wrong + 1];
            of("h29;g10").season(wrong, 1, cells);
            Run run = of("h29;g10").row(1, 2, cells);
            for (int what : new int[] {0, 2, 3, 4, 10, 14}) {
                run.asked(-100 - wrong, "season", 1, 2, 0, 20, what);
            }
        }
    }

    @Says("its FIRST WRONG (1; NONE)")
    static void promise10_noneIsWrong() {
        of("h29;g10").season(NONE, 1).season(NONE, 1, toAndFro());
    }

    @Says("how many HOLES there are then (what 0)")
    static void promise10_holesFromNoneToTen() {
        of(open(5, 9, ";g10")).season(10, 0).season(10, 0, 8, 10).season(0, 0, 9, 10).season(1, 0, 0, 1, 9, 10)
            .season(10, 0, 8, 10, 9, 20).season(1, 0, 8, 10, 9, 20, 8, 10).season(0, 0, 8, 10, 9, 20, 9, 10);
    }

    @Says("which are WORN then, as a set of HEDGES (2)")
    static void promise10_wornFromNoneToTheLastHedge() {
        of(open(5, 9, ";g10;g13")).season(0, 2).season(1, 2, 0, 1).season(512, 2, 1, 4).season(513, 2, 0, 1, 1, 4)
            .season(513, 2, 0, 1, 1, 4, 0, 10).season(0, 2, 0, 1, 1, 4, 1, 10).season(1, 2, 0, 1, 0, 0);
        busy().season(1, 2).season(1, 2, 0, 10).season(0, 2, 1, 10);
    }

    @Says("how often anybody GOES in it (3)")
    static void promise10_goingsInItAlone() {
        busy().season(0, 3).season(0, 3, 1, 10, 0, 20).season(1, 3, 0, 1).season(2, 3, 0, 1, 3, 10, 2, 20, 0, 0);
    }

    @Says("FIELDS in which anybody is then, as a set (4)")
    static void promise10_fieldsInWhichAnybodyIs() {
        of(open(5, 9, ";g10;g11;g12;g13;g14")).season(31, 4).season(30, 4, 0, 4).season(16, 4, 0, 4, 1, 4, 2, 4, 3, 4)
            .season(1, 4, 1, 0, 2, 0, 3, 0, 4, 0);
    }

    @Says("the FIELD of GOER k then (10 and k; NONE: there is no such GOER)")
    static void promise10_noSuchGoer() {
        for (int goers = 1; goers <= 5; goers++) {
            Run run = of("h25" + ";g30".repeat(goers)).row(1, 2, 0, 1);
            for (int k = 0; k < 5; k++) {
                run.asked(k >= goers ? NONE : k == 0 ? 1 : 0, "season", 1, 2, 0, 1, 10 + k);
            }
        }
    }

    @Says("0 .. 9 and 10: so many YEARS")
    static void promise10_yearsFrom0To9() {
        for (int years = 0; years <= 9; years++) {
            // The hole is 9 less the years: who fits it tells how great it is.
            of("h29;g90;g80;g70;g60;g50").season(years == 0 ? NONE : 1, 1, years, 10, 0, 1)
                .season(years <= 4 ? NONE : 1, 1, years, 10, 4, 1).season(years <= 8 ? 1 : 0, 0, years, 10);
        }
        of("h28;g90;g80").season(NONE, 1, 1, 1, 1, 10, 0, 1).season(2, 1, 1, 1, 2, 10, 0, 1).season(2, 1, 1, 1, 0, 10, 0, 1);
    }

    @Says("the number of a HEDGE and 20: its HOLE is STOPPED up")
    static void promise10_stoppedUpItIs9() {
        of("h21;g90").season(0, 1, 0, 1).season(NONE, 1, 0, 20, 0, 1).season(1, 0, 0, 20, 8, 10).season(0, 0, 0, 20, 9, 10);
    }

    @Says("a GOER and 0 .. 4: he GOES to that FIELD")
    static void promise10_goersAndFields0To4() {
        for (int k = 0; k < 5; k++) {
            for (int to = 0; to < 5; to++) {
                Run run = of(open(5, 9, ";g10;g11;g12;g13;g14")).row(1, 0, k, to);
                run.asked(k == to ? 0 : NONE, "season", 1, 0, 0, 1, 1);
                run.asked(k == to ? -100 : to, "season", 1, 0, 0, 1, 10 + k);
            }
        }
    }

    @Says("from how all is now (nothing is changed)")
    static void promise10_fromHowAllIsNow() {
        // Each season is asked of an object of its own, and all that can be seen is as it was.
        busy().season(0, 0, 9, 10, 9, 10).season(NONE, 1, 0, 1, 0, 20, 9, 10).season(4, 0, 0, 20, 2, 20, 4, 20, 5, 20)
            .season(2, 3, 0, 1, 0, 0);
        // A season leaves nothing for the next one.
        of("h25;g50").season(1, 10, 0, 1).season(0, 10).season(1, 2, 0, 1).season(0, 2).season(0, 0, 9, 10).season(1, 0);
    }

    @Says("A SEASON told: a row of pairs, one behind another")
    static void promise10_oneBehindAnother() {
        of("h3505;g50").season(NONE, 1, 0, 1, 0, 2).season(0, 1, 0, 2, 0, 1).season(2, 10, 0, 1, 0, 2);
    }
}
