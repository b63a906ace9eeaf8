/** The edges of promises 11 to 15: who comes where, and how he is let or kept. */
public final class ComingEdges extends Edges {
    // Five fields in a row, 0 to 4, with holes 01:9 12:9 23:9 34:9.
    private static final String CHAIN = "h59000900909;g90;g94";

    // Two ways from 0 to 3, by 1 and by 2, and one hole from there to 4: hedges 0 1 5 7 9.
    private static final String RING = "h59900090909;g90";

    public static void main(String[] args) throws Exception {
        run(ComingEdges.class, 11, 15);
    }

    // ---- promise 11: widest

    @Says("UNKNOWN: either, both the same")
    static void promise11_unknownEitherOrTheSame() {
        unknownEither(0, "widest", 0, 0);
    }

    @Says({"WIDEST.",
        "WIDEST between two FIELDS: the greatest v (1 .. 9) so that one comes from the one to the other by HOLES of v or"
            + " more alone"})
    static void promise11_v1To9() {
        for (int v = 1; v <= 9; v++) {
            of("h2" + v + ";g10").asked(v, "widest", 0, 1).asked(v, "widest", 1, 0);
        }
    }

    @Says("0: by no HOLES at all")
    static void promise11_0ByNoHolesAtAll() {
        of("h20;t10").asked(0, "widest", 0, 1);
        Run run = of("h59000900090;g10").asked(0, "widest", 2, 3).asked(0, "widest", 4, 3);
        run.asked(9, "widest", 2, 4).asked(9, "widest", 0, 4).asked(9, "widest", 0, 2);
        of("h21;g10").due(0, "years", 1).asked(0, "widest", 0, 1);
    }

    @Says("by HOLES of v or more alone")
    static void promise11_theLeastHoleOfTheBestWay() {
        for (int a = 0; a < 4; a++) {
            for (int v = 1; v <= 9; v++) {
                of(CHAIN).due(9, "hoop", a, a + 1, v).asked(v, "widest", 0, 4).asked(v, "widest", 4, 0);
            }
        }
        of("h3282;g10").asked(2, "widest", 0, 1).asked(8, "widest", 0, 2);
        of("h3288;g10").asked(8, "widest", 0, 1);
        of("h3787;g10").asked(7, "widest", 0, 1);
        of("h3677;g10").asked(7, "widest", 0, 1);
    }

    @Says("(As all is now.)")
    static void promise11_asAllIsNow() {
        of("h25;g10").due(4, "go", 0, 1).due(1, "years", 1).asked(6, "widest", 0, 1).due(6, "stop", 0, 1)
            .asked(9, "widest", 0, 1).due(9, "hoop", 0, 1, 1).asked(1, "widest", 0, 1).due(0, "years", 1)
            .asked(0, "widest", 0, 1);
    }

    // ---- promise 12: way

    @Says("WAY: how many FIELDS (x -1), FIELD x of it (0 .. 4)")
    static void promise12_xFromLess1To4() {
        of(CHAIN).asked(5, "way", 0, 4, -1).asked(0, "way", 0, 4, 0).asked(1, "way", 0, 4, 1).asked(2, "way", 0, 4, 2)
            .asked(3, "way", 0, 4, 3).asked(4, "way", 0, 4, 4).asked(0, "way", 1, 0, 4).asked(4, "way", 1, 0, 0);
        for (int x : beyond(-1, 4)) {
            of(CHAIN).refused(OUTSIDE, "way", 0, 4, x).refused(OUTSIDE, "way", 0, 0, x);
            of("h20;g10").refused(OUTSIDE, "way", 0, 1, x);
        }
    }

    @Says("NONE: there are not so many, there is none")
    static void promise12_noneThereAreNotSoMany() {
        Run run = of(CHAIN);
        for (int to = 0; to < 5; to++) {
            run.asked(to + 1, "way", 0, to, -1).asked(to, "way", 0, to, to);
            for (int x = to + 1; x < 5; x++) {
                run.asked(NONE, "way", 0, to, x);
            }
        }
    }

    @Says({"NONE: there are not so many, there is none", "of several rows the first; NONE: there is none"})
    static void promise12_noneThereIsNone() {
        for (int x = -1; x <= 4; x++) {
            of("h20;t10;g90").asked(NONE, "way", 0, 1, x).asked(NONE, "way", 1, 1, x);
            of("h28;g90").asked(NONE, "way", 0, 1, x);
        }
    }

    @Says("FIELDS in which he is, the first and the last, too")
    static void promise12_heIsThere() {
        of("h20;g91").asked(1, "way", 0, 1, -1).asked(1, "way", 0, 1, 0).asked(NONE, "way", 0, 1, 1)
            .asked(NONE, "way", 0, 1, 4);
    }

    @Says("by the fewest HOLES, that he FITS")
    static void promise12_justAsGreatAsHeIsThick() {
        of("h25;g50;g60;t60;t70").asked(2, "way", 0, 1, -1).asked(NONE, "way", 1, 1, -1).asked(2, "way", 2, 1, -1)
            .asked(NONE, "way", 3, 1, -1);
        of("h21;t10;c10;c30;c40").asked(2, "way", 0, 1, -1).asked(2, "way", 1, 1, -1).asked(2, "way", 2, 1, -1)
            .asked(NONE, "way", 3, 1, -1);
    }

    @Says("WAY of a GOER to a FIELD: by the fewest HOLES, that he FITS")
    static void promise12_theFewestAheadOfTheFirstRow() {
        of("h3999;g10").asked(2, "way", 0, 2, -1).asked(2, "way", 0, 2, 1);
        of("h3989;g90").asked(3, "way", 0, 2, -1).asked(1, "way", 0, 2, 1);
        // 0 1 2 3 4 comes first as a row, but 0 3 4 is shorter.
        of(CHAIN).due(0, "hoop", 0, 3, 9).asked(3, "way", 0, 4, -1).asked(3, "way", 0, 4, 1).asked(4, "way", 0, 4, 2);
    }

    @Says("of several rows the first")
    static void promise12_ofSeveralRowsTheFirst() {
        // By 1, 2 or 3; then without 1; then without 2.
        Run run = of("h59990009099;g90;g94");
        run.asked(3, "way", 0, 4, -1).asked(1, "way", 0, 4, 1).asked(1, "way", 1, 0, 1);
        run.due(9, "hoop", 1, 4, 8).asked(2, "way", 0, 4, 1).asked(2, "way", 1, 0, 1);
        run.due(9, "hoop", 0, 2, 8).asked(3, "way", 0, 4, 1).asked(3, "way", 1, 0, 1);
    }

    @Says("of several rows the first")
    static void promise12_rowsThatPartLater() {
        // 4 0 1 3 and 4 0 2 3.
        of("h59909090900;g94").asked(4, "way", 0, 3, -1).asked(0, "way", 0, 3, 1).asked(1, "way", 0, 3, 2)
            .asked(3, "way", 0, 3, 3).asked(NONE, "way", 0, 3, 4).due(9, "hoop", 0, 1, 0).asked(2, "way", 0, 3, 2);
    }

    @Says("UNKNOWN: GOER, FIELD; OUTSIDE")
    static void promise12_unknownAheadOfOutside() {
        for (int x : new int[] {-2, -1, 0, 4, 5}) {
            unknownGoer("way", 0, 0, x);
            unknownField(1, "way", 0, 0, x);
        }
    }

    @Says("(As all is now.)")
    static void promise12_asAllIsNow() {
        of("h3550;g50").asked(2, "way", 0, 2, -1).due(0, "go", 0, 1).asked(3, "way", 0, 2, -1).asked(1, "way", 0, 2, 0)
            .due(2, "years", 1).asked(NONE, "way", 0, 2, -1).asked(2, "way", 0, 0, -1).due(5, "fatten", 0, 4)
            .asked(3, "way", 0, 2, -1);
    }

    // ---- promise 13: market

    @Says("MARKET: the FIELD (what 0), who can come there, as a set (1)")
    static void promise13_what0And1() {
        of("h20;g11").asked(1, "market", 0).asked(1, "market", 1);
        for (int what : beyond(0, 1)) {
            busy().refused(OUTSIDE, "market", what);
        }
    }

    @Says("OUTSIDE; STATE: there is no COUNTY")
    static void promise13_outsideAheadOfState() {
        fresh().refused(STATE, "market", 0).refused(STATE, "market", 1);
        for (int what : beyond(0, 1)) {
            fresh().refused(OUTSIDE, "market", what);
        }
    }

    @Says("MARKET: the FIELD to which the most GOERS can come (or where they are): of several the least")
    static void promise13_orWhereTheyAre() {
        for (int field = 0; field < 5; field++) {
            of(open(5, 0, ";t1" + field)).asked(field, "market", 0).asked(1, "market", 1);
        }
        of(open(5, 0, ";g90;g94;g94")).asked(4, "market", 0).asked(6, "market", 1);
    }

    @Says("of several the least")
    static void promise13_ofSeveralTheLeast() {
        of(open(5, 0, ";g94;g93;g92;g91;g90")).asked(0, "market", 0).asked(16, "market", 1);
        of(open(5, 0, ";g94;g93;g92;g91;g91")).asked(1, "market", 0).asked(24, "market", 1);
        of(open(5, 0, ";g94;g94;g92;g92")).asked(2, "market", 0).asked(12, "market", 1);
        of(open(5, 9, ";g94;g93")).asked(0, "market", 0).asked(3, "market", 1);
        of("h3009;g92;g91;g10").asked(1, "market", 0).asked(3, "market", 1);
    }

    @Says("who can come there, as a set (1)")
    static void promise13_fromOneToAllFive() {
        of(open(5, 9, ";g90;t91;c92;g93;g94")).asked(0, "market", 0).asked(31, "market", 1);
        of(open(5, 8, ";g90;g91;g92;g93;t94")).asked(0, "market", 0).asked(17, "market", 1);
        of(open(2, 8, ";g90;g91;g81")).asked(0, "market", 0).asked(5, "market", 1);
    }

    @Says("Sets are told as bits (bit k for number k)")
    static void promise13_bitKForGoerK() {
        for (int k = 0; k < 5; k++) {
            StringBuilder goers = new StringBuilder();
            for (int other = 0; other < 5; other++) {
                goers.append(other == k ? ";g50" : ";g91");
            }
            // All but goer k are in field 1, and he comes there if he fits.
            of("h24" + goers).asked(1, "market", 0).asked(31 - (1 << k), "market", 1).due(4, "hoop", 0, 1, 5)
                .asked(1, "market", 0).asked(31, "market", 1);
        }
    }

    // ---- promise 14: widen

    @Says("UNKNOWN: GOER, FIELD")
    static void promise14_unknownGoerOrField() {
        unknownGoer("widen", 0, 0);
        unknownField(1, "widen", 0, 0);
    }

    @Says({"WIDEN; NONE.",
        "WIDEN for a GOER to a FIELD: the fewest HOLES (there are such) to be made as great as he wants so that he comes"
            + " there"})
    static void promise14_from0To4Holes() {
        Run run = of(CHAIN);
        run.asked(0, "widen", 0, 0).asked(0, "widen", 0, 4).due(9, "hoop", 3, 4, 8).asked(1, "widen", 0, 4);
        run.due(9, "hoop", 2, 3, 1).asked(2, "widen", 0, 4).due(9, "hoop", 0, 1, 8).asked(3, "widen", 0, 4);
        run.due(9, "hoop", 1, 2, 7).asked(4, "widen", 0, 4).asked(4, "widen", 1, 0).asked(3, "widen", 0, 3)
            .asked(0, "widen", 0, 0);
    }

    @Says("NONE: it can't be")
    static void promise14_noneItCannotBe() {
        of("h20;t10").asked(NONE, "widen", 0, 1).asked(0, "widen", 0, 0).due(0, "hoop", 0, 1, 1).asked(0, "widen", 0, 1);
        for (int a = 0; a < 4; a++) {
            of(CHAIN).due(9, "hoop", a, a + 1, 0).asked(NONE, "widen", 0, 4).asked(NONE, "widen", 1, 0);
        }
    }

    @Says("the fewest HOLES (there are such)")
    static void promise14_aHoleThatIsNotThereIsNotMade() {
        // The hole between would be one, but there is none: two are to be made wider.
        of("h3101;g90").asked(2, "widen", 0, 2).due(0, "hoop", 0, 2, 1).asked(1, "widen", 0, 2);
    }

    @Says("the fewest HOLES (there are such) to be made as great as he wants so that he comes there")
    static void promise14_justAsGreatAsHeIsThick() {
        of("h25;g50;g60;t60;t70;c90").asked(0, "widen", 0, 1).asked(1, "widen", 1, 1).asked(0, "widen", 2, 1)
            .asked(1, "widen", 3, 1).asked(0, "widen", 4, 1);
    }

    @Says("the fewest HOLES (there are such) to be made as great as he wants so that he comes there")
    static void promise14_aLongWayThatHeFits() {
        of(CHAIN).due(0, "hoop", 0, 4, 8).asked(0, "widen", 0, 4).due(9, "hoop", 1, 2, 8).asked(1, "widen", 0, 4)
            .due(9, "hoop", 2, 3, 8).asked(1, "widen", 0, 4).due(8, "hoop", 0, 4, 0).asked(2, "widen", 0, 4);
    }

    @Says("NONE is -9")
    static void promise14_noneIsLess9() {
        holds(HedgeHoles.NONE == -9, "NONE is -9");
        of("h20;g10").asked(-9, "widen", 0, 1).asked(-9, "way", 0, 1, 0).asked(-9, "keep", 0, 0).season(-9, 1);
    }

    // ---- promise 15: keep

    @Says("UNKNOWN: GOER, FIELD")
    static void promise15_unknownGoerOrField() {
        unknownGoer("keep", 0, 0);
        unknownField(1, "keep", 0, 0);
    }

    @Says("NONE: he is there")
    static void promise15_noneHeIsThere() {
        for (int field = 0; field < 5; field++) {
            of(open(5, 9, ";g1" + field)).asked(NONE, "keep", 0, field);
            of(open(5, 0, ";t1" + field)).asked(NONE, "keep", 0, field);
        }
    }

    @Says("the fewest HOLES to be shut so that he does not come there: HEDGES as a set")
    static void promise15_noneToBeShutIfHeDoesNotCome() {
        of("h20;t10").asked(0, "keep", 0, 1);
        of("h28;g90;t90").asked(0, "keep", 0, 1).asked(1, "keep", 1, 1);
        of("h59000900090;g10").asked(0, "keep", 0, 3);
    }

    @Says({"KEEP, as a set; NONE.",
        "KEEP of a GOER from a FIELD: the fewest HOLES to be shut so that he does not come there: HEDGES as a set"})
    static void promise15_fromOneToFourHoles() {
        of(open(2, 1, ";g10")).asked(0b1, "keep", 0, 1);
        of(open(3, 1, ";g10")).asked(0b11, "keep", 0, 2);
        of(open(4, 1, ";g10")).asked(0b111, "keep", 0, 3);
        of(open(5, 1, ";g10")).asked(0b1111, "keep", 0, 4);
        // Alone the last hedge.
        of(open(5, 0, ";g14")).due(0, "hoop", 3, 4, 1).asked(512, "keep", 0, 3);
    }

    @Says("HEDGES as a set: of several the least")
    static void promise15_ofSeveralTheLeast() {
        of(CHAIN).asked(1, "keep", 0, 4).asked(1, "keep", 1, 0).asked(16, "keep", 1, 1).asked(128, "keep", 1, 2)
            .asked(512, "keep", 1, 3);
        of(RING).asked(0b11, "keep", 0, 3);
        // About field 1 or about field 2: the same from either side.
        of(open(5, 9, ";g91;g92")).asked(0b111_0001, "keep", 0, 2).asked(0b111_0001, "keep", 1, 1);
        // About neither of the two fields.
        of("h59900900909;g90").asked(128, "keep", 0, 4);
    }

    @Says("the fewest HOLES to be shut")
    static void promise15_theFewestAheadOfTheLeast() {
        of(RING).asked(512, "keep", 0, 4).due(0, "hoop", 0, 4, 9).asked(512 + 8, "keep", 0, 4);
    }

    @Says("so that he does not come there")
    static void promise15_holesThatHeDoesNotFitAreLeft() {
        of(RING).due(9, "hoop", 0, 1, 8).asked(2, "keep", 0, 3).due(9, "hoop", 2, 3, 8).asked(0, "keep", 0, 3)
            .due(9, "fatten", 0, 8).asked(0b11, "keep", 0, 3);
    }

    @Says("Sets are told as bits (bit k for number k)")
    static void promise15_bitKForHedgeK() {
        int number = 0;
        for (int a = 0; a < 5; a++) {
            for (int b = a + 1; b < 5; b++) {
                of(open(5, 0, ";g1" + a + ";g1" + b)).due(0, "hoop", a, b, 1).asked(1 << number, "keep", 0, b)
                    .asked(1 << number, "keep", 1, a);
                number++;
            }
        }
    }
}
