/** The edges of promises 1 to 6: a new object, texts, goers, holes. */
public final class CountyEdges extends Edges {
    // The longest text that there is.
    private static final String LONGEST = "h50123456789;g10;t24;c93;g50;t91";

    public static void main(String[] args) throws Exception {
        run(CountyEdges.class, 1, 6);
    }

    // ---- promise 1: a new object

    @Says("No COUNTY (no FIELDS, GOERS)")
    static void promise1_noGoers() {
        fresh().asked(0, "many", 1).refused(UNKNOWN, "ofGoer", 0, 0).refused(UNKNOWN, "fatten", 0, 1)
            .refused(UNKNOWN, "go", 0, 0).refused(UNKNOWN, "way", 0, 0, 0).refused(UNKNOWN, "widen", 0, 0)
            .refused(UNKNOWN, "keep", 0, 0).refused(UNKNOWN, "reading", 0, 0, 1, 0).refused(UNKNOWN, "girths", 0)
            .refused(UNKNOWN, "kinds", 0).refused(LOST, "odds", 0, 0, 0).refused(UNKNOWN, "tell", 0)
            .refused(UNKNOWN, "hail", 0).refused(UNKNOWN, "as", 0, 0);
    }

    @Says("No COUNTY (no FIELDS, GOERS)")
    static void promise1_noFields() {
        fresh().asked(0, "many", 0).refused(UNKNOWN, "hole", 0, 1, 0).refused(UNKNOWN, "hoop", 0, 1, 0)
            .refused(UNKNOWN, "stop", 0, 1).refused(UNKNOWN, "widest", 0, 1).refused(UNKNOWN, "holes", 0, 1)
            .refused(STATE, "years", 1).refused(STATE, "market", 0);
    }

    @Says("SHEETS have nothing")
    static void promise1_sheetsHaveNothing() {
        for (int k = 0; k < 4; k++) {
            fresh().asked(0, "lose", k).faulted(NULL, "put", k, 0, 0).faulted(NULL, "cell", k, 0, 0)
                .faulted(NULL, "copy", k, 0, k, 0, 0).faulted(NULL, "county", k, 0, 0, 0)
                .faulted(NULL, "season", k, 0, 0, 0, 0);
        }
    }

    @Says("An object is used for at most 512 calls after it has been made")
    static void promise1_atMost512Calls() {
        Run run = of("h29;g10");
        // Nine calls have been; the last of 512 asks how often anybody went.
        for (int went = 0; went < 502; went++) {
            run.due(8, "go", 0, 1 - went % 2);
        }
        run.due(502, "many", 3);
    }

    // ---- promise 2: texts

    /** What becomes of a text that goes on with each code in turn, behind a beginning that is right so far. */
    private static void goesOnWith(String good, String begun, long thenAnswered) {
        for (int code = -200; code <= 400; code++) {
            int[] cells = (begun + "?").chars().toArray();
            cells[begun.length()] = code;
            Run run = fresh().row(0, 2, cells);
            if (code >= 0 && good.indexOf(code) >= 0) {
                run.due(thenAnswered, "county", 0, 2, 0, cells.length);
            } else {
                run.asked(-100 - begun.length(), "county", 0, 2, 0, cells.length);
            }
        }
    }

    @Says("Codes: h 104")
    static void promise2_theFirstCodeIsH() {
        goesOnWith("h", "", -101);
    }

    @Says("A COUNTY by a TEXT: h, a digit 2 .. 5 (how many FIELDS there are, numbered from 0 on)")
    static void promise2_aDigit2To5OfFields() {
        goesOnWith("2345", "h", -102);
        for (int fields = 2; fields <= 5; fields++) {
            of(open(fields, 1, ";g10")).asked(fields, "many", 0);
        }
    }

    @Says("then a digit 0 .. 9 for each two of them (HOLE: how great it is; 0: none)")
    static void promise2_aDigit0To9OfEachHole() {
        for (int fields = 2; fields <= 5; fields++) {
            for (int told = 0; told < hedges(fields); told++) {
                goesOnWith("0123456789", "h" + fields + "7".repeat(told), -100 - 3 - told);
            }
        }
        of("h20;g10").widths(0);
        of("h29;g10").widths(9);
    }

    @Says("then a digit 0 .. 9 for each two of them")
    static void promise2_oneHoleTooFewOrTooMany() {
        for (int fields = 2; fields <= 5; fields++) {
            int hedges = hedges(fields);
            fresh().notTaken(1 + hedges, "h" + fields + "7".repeat(hedges - 1) + ";g10");
            fresh().notTaken(2 + hedges, "h" + fields + "7".repeat(hedges + 1) + ";g10");
            fresh().told(1, "h" + fields + "7".repeat(hedges) + ";g10");
        }
    }

    @Says("0 and 1, 0 and 2, .., 1 and 2, ..: HEDGES are numbered so from 0 on")
    static void promise2_holesInTheOrderOfHedges() {
        of("h51234567890;g10").widths(1, 2, 3, 4, 5, 6, 7, 8, 9, 0);
        of("h4987654;g10").widths(9, 8, 7, 6, 5, 4);
        of("h3120;g10").widths(1, 2, 0);
    }

    @Says("each: ; and a letter")
    static void promise2_theSemicolonOfAGoer() {
        goesOnWith(";", "h25", -104);
        goesOnWith(";", "h25;g31", -108);
    }

    @Says("h 104, g 103, t 116, c 99, ; 59, digits 48 .. 57")
    static void promise2_theLetterOfAGoer() {
        goesOnWith("gtc", "h25;", -105);
        goesOnWith("gtc", "h25;g31;", -109);
    }

    @Says("a digit 1 .. 9 (GIRTH)")
    static void promise2_aDigit1To9OfGirth() {
        for (String letter : new String[] {"g", "t", "c"}) {
            goesOnWith("123456789", "h25;" + letter, -106);
            of("h25;" + letter + "10").asked(1, "ofGoer", 0, 1);
            of("h25;" + letter + "90").asked(9, "ofGoer", 0, 1);
        }
    }

    @Says("a digit (the FIELD in which he is; there must be such a one)")
    static void promise2_theFieldInWhichHeIs() {
        for (int fields = 2; fields <= 5; fields++) {
            goesOnWith("01234".substring(0, fields), open(fields, 1, ";g3"), 1);
            goesOnWith("01234".substring(0, fields), open(fields, 1, ";g30;c9"), 2);
        }
    }

    @Says("then 1 to 5 GOERS, numbered from 0 on")
    static void promise2_oneToFiveGoers() {
        for (int fields = 2; fields <= 5; fields++) {
            String none = open(fields, 3, "");
            fresh().notTaken(none.length(), none);
            for (int goers = 1; goers <= 5; goers++) {
                fresh().told(goers, none + ";t21".repeat(goers));
            }
            fresh().notTaken(none.length() + 20, none + ";t21".repeat(6));
        }
    }

    @Says("FIRST FAULT: the place (from 0 on) of the first code with which no TEXT goes on (the ; of a sixth GOER)")
    static void promise2_theSemicolonOfASixthGoer() {
        goesOnWith("", LONGEST, 0);
        fresh().notTaken(32, LONGEST + ";");
        fresh().notTaken(32, LONGEST + ";g10");
        fresh().notTaken(23, "h25;g10;g10;g10;g10;g10;");
    }

    @Says({"how many GOERS; -100 less the FIRST FAULT",
        "FIRST FAULT: the place (from 0 on) of the first code with which no TEXT goes on"})
    static void promise2_theFirstOfSeveralFaults() {
        fresh().notTaken(0, "x9:,x").notTaken(1, "h6:;x0").notTaken(2, "h3:;x0").notTaken(3, "h35x");
        fresh().notTaken(4, "h25;x05").notTaken(5, "h25;g05").notTaken(6, "h25;g92x").notTaken(7, "h25;g91,g");
    }

    @Says("how many codes there are, if it just ends too soon")
    static void promise2_endsTooSoon() {
        for (int n = 0; n < LONGEST.length(); n++) {
            String begun = LONGEST.substring(0, n);
            if (n >= 16 && n % 4 == 0) {
                fresh().told((n - 12) / 4, begun);
            } else {
                fresh().notTaken(n, begun);
            }
        }
        fresh().told(5, LONGEST);
    }

    @Says("how many codes there are, if it just ends too soon")
    static void promise2_noCodesAtAll() {
        fresh().row(0, 0).asked(-100, "county", 0, 0, 0, 0);
        fresh().written(0, 0, "h25;g31").asked(-100, "county", 0, 0, 0, 0).asked(-100, "county", 0, 0, 7, 0);
    }

    @Says("A COUNTY by a TEXT of n cells of a SHEET from i on, taken as a row of a LANE: how many GOERS")
    static void promise2_cellsFromIOn() {
        for (int lane = 0; lane < 3; lane++) {
            fresh().written(3, lane, "h..h25;g31;").asked(-100, "county", 3, lane, 2, 8)
                .asked(-101, "county", 3, lane, 0, 11).asked(-106, "county", 3, lane, 3, 6)
                .asked(-108, "county", 3, lane, 3, 8).due(1, "county", 3, lane, 3, 7).asked(2, "many", 0);
        }
    }

    @Says("A COUNTY by a TEXT of n cells of a SHEET from i on, taken as a row of a LANE: how many GOERS")
    static void promise2_theLastCellsOfAFullRow() {
        fresh().written(0, 1, ".".repeat(28) + LONGEST).due(5, "county", 0, 1, 28, 32);
    }

    @Says("what comes to a cell of it is cut to its LANE")
    static void promise2_codesAreWhatTheCellsHave() {
        String text = "h25;g31";
        fresh().written(0, 0, text).due(1, "put", 0, 0, 'h' + 256).due(1, "county", 0, 0, 0, 7);
        fresh().written(0, 1, text).due(1, "put", 0, 0, 'h' + 256).asked(-100, "county", 0, 1, 0, 7);
        fresh().written(0, 1, text).due(1, "put", 0, 0, 'h' + 65536).due(1, "county", 0, 1, 0, 7);
        fresh().written(0, 2, text).due(1, "put", 0, 0, 'h' + 65536).asked(-100, "county", 0, 2, 0, 7);
    }

    @Says("-100 less it")
    static void promise2_aTextThatIsNotTakenChangesNothing() {
        busy().notTaken(0, "").notTaken(0, "x").notTaken(1, "h").notTaken(1, "h6").notTaken(8, "h29;g91;");
        busy().notTaken(12, "h59876543210");
        busy().notTaken(16, "h3999;g90;t91;c93");
        busy().notTaken(32, LONGEST + ";");
        busy().notTaken(32, LONGEST + "1");
    }

    @Says("A TEXT that is taken makes all anew")
    static void promise2_fieldsHolesAndGoersAnew() {
        busy().told(1, "h25;t41").asked(2, "many", 0).asked(1, "many", 1).widths(5).asked(1, "ofGoer", 0, 0)
            .asked(4, "ofGoer", 0, 1).asked(1, "ofGoer", 0, 3).refused(UNKNOWN, "ofGoer", 1, 0)
            .refused(UNKNOWN, "hole", 0, 2, 0).told(5, LONGEST).widths(0, 1, 2, 3, 4, 5, 6, 7, 8, 9)
            .asked(5, "many", 1).asked(2, "ofGoer", 2, 0).asked(9, "ofGoer", 2, 1).asked(3, "ofGoer", 2, 3);
    }

    @Says("no HOLE is WORN")
    static void promise2_noHoleIsWorn() {
        Run run = of(open(3, 9, ";g10")).due(8, "go", 0, 1).due(8, "go", 0, 2).due(8, "go", 0, 0)
            .asked(1, "hole", 0, 1, 1).asked(1, "hole", 1, 2, 1).asked(1, "hole", 0, 2, 1).told(1, "h3955;g10");
        run.asked(0, "hole", 0, 1, 1).asked(0, "hole", 1, 2, 1).asked(0, "hole", 0, 2, 1);
        run.due(3, "years", 1).widths(8, 4, 4);
    }

    @Says("A TEXT that is taken makes all anew: no HOLE is WORN")
    static void promise2_norByASeasonThatWasToldAhead() {
        of(open(3, 9, ";g10")).row(1, 0, 0, 1, 0, 2, 0, 0).due(7, "season", 1, 0, 0, 3, 2).told(1, "h3955;g10")
            .asked(0, "hole", 0, 1, 1).asked(0, "hole", 0, 2, 1).asked(0, "hole", 1, 2, 1).season(0, 2);
    }

    @Says("A TEXT that is taken makes all anew")
    static void promise2_nothingIsLeftOfAGreaterCounty() {
        Run run = of(open(5, 9, ";g94;g94;g94;g94;g94")).due(10, "years", 1).told(1, "h29;g10");
        run.season(0, 1, 1, 20).season(0, 1, 9, 20).season(0, 1, 0, 2).season(UNKNOWN, 1, 1, 1).season(NONE, 11)
            .season(1, 0).season(1, 4);
        run.asked(0, "market", 0).asked(1, "market", 1).asked(1, "keep", 0, 1).due(1, "years", 1);
    }

    @Says("it is YEAR 0")
    static void promise2_itIsYear0() {
        of(FOUR).due(0, "years", 60).asked(60, "many", 2).told(4, FOUR).asked(0, "many", 2)
            .due(4, "years", 1).asked(1, "many", 2);
    }

    @Says("nobody went")
    static void promise2_nobodyWent() {
        of(FOUR).due(3, "go", 0, 3).due(3, "go", 0, 0).asked(2, "many", 3).told(4, FOUR).asked(0, "many", 3)
            .due(3, "go", 0, 3).asked(1, "many", 3);
    }

    @Says("no READINGS")
    static void promise2_noReadings() {
        Run run = of(FOUR);
        for (int number = 0; number < 8; number++) {
            run.due(number, "reading", 0, 0, 1, 0);
        }
        run.asked(0b11_1110_0000, "girths", 0).told(4, FOUR);
        run.asked(0, "many", 4).asked(1022, "girths", 0).asked(7, "kinds", 0).asked(1023, "holes", 0, 1)
            .refused(OUTSIDE, "back", 1).due(0, "reading", 0, 0, 1, 1);
    }

    @Says("UNKNOWN; OUTSIDE: lane; FAULTS CAST (nothing is no CAST), NULL, SIZE")
    static void promise2_unknownAheadOfAll() {
        for (int sheet : beyond(0, 3)) {
            busy().refused(UNKNOWN, "county", sheet, 0, 0, 24).refused(UNKNOWN, "county", sheet, 3, -1, -1);
        }
    }

    @Says("OUTSIDE: lane")
    static void promise2_outsideAheadOfFaults() {
        for (int lane : beyond(0, 2)) {
            // Sheet 0 has bytes, sheet 3 nothing; both with a length below 0, too.
            busy().refused(OUTSIDE, "county", 0, lane, 0, 24).refused(OUTSIDE, "county", 0, lane, -1, -1)
                .refused(OUTSIDE, "county", 3, lane, -1, -1);
        }
    }

    @Says("FAULTS CAST (nothing is no CAST), NULL, SIZE: n is below 0, INDEX")
    static void promise2_castAheadOfSizeAndIndex() {
        for (int lane = 0; lane < 3; lane++) {
            for (int as = 0; as < 3; as++) {
                if (lane != as) {
                    busy().written(3, lane, "h25;g31").faulted(CAST, "county", 3, as, 0, 7)
                        .faulted(CAST, "county", 3, as, 0, -1).faulted(CAST, "county", 3, as, -1, 8);
                }
            }
        }
    }

    @Says("(nothing is no CAST), NULL, SIZE: n is below 0, INDEX")
    static void promise2_nothingIsNoCast() {
        for (int as = 0; as < 3; as++) {
            busy().faulted(NULL, "county", 3, as, 0, 0).faulted(NULL, "county", 3, as, 0, -1)
                .faulted(NULL, "county", 3, as, -1, 1);
        }
    }

    @Says("SIZE: n is below 0, INDEX: not all cells are there")
    static void promise2_sizeAheadOfIndex() {
        busy().faulted(SIZE, "county", 0, 0, 0, -1).faulted(SIZE, "county", 0, 0, 0, MIN)
            .faulted(SIZE, "county", 0, 0, -1, -1).faulted(SIZE, "county", 0, 0, 25, -1)
            .faulted(SIZE, "county", 0, 0, MIN, MIN).faulted(SIZE, "county", 0, 0, MAX, -1)
            .asked(-100, "county", 0, 0, 0, 0);
    }

    @Says("INDEX: not all cells are there")
    static void promise2_indexOfCellsThatAreNotThere() {
        busy().faulted(INDEX, "county", 0, 0, 0, 25).faulted(INDEX, "county", 0, 0, 1, 24)
            .faulted(INDEX, "county", 0, 0, -1, 24).faulted(INDEX, "county", 0, 0, 24, 1)
            .faulted(INDEX, "county", 0, 0, MIN, 1).faulted(INDEX, "county", 0, 0, MAX, 1)
            .due(4, "county", 0, 0, 0, 24);
        fresh().row(0, 0).faulted(INDEX, "county", 0, 0, 0, 1);
    }

    @Says("INDEX: not all cells are there")
    static void promise2_indexWhereTheSumWrapsAround() {
        busy().faulted(INDEX, "county", 0, 0, 1, MAX).faulted(INDEX, "county", 0, 0, MAX, MAX)
            .faulted(INDEX, "county", 0, 0, MIN, MAX).faulted(INDEX, "county", 0, 0, 24, MAX);
    }

    @Says("of cells from i on also where i is not 0 .. how many there are, if none of them is taken, too")
    static void promise2_indexIfNoneIsTaken() {
        busy().asked(-100, "county", 0, 0, 0, 0).asked(-100, "county", 0, 0, 24, 0)
            .faulted(INDEX, "county", 0, 0, -1, 0).faulted(INDEX, "county", 0, 0, 25, 0)
            .faulted(INDEX, "county", 0, 0, MIN, 0).faulted(INDEX, "county", 0, 0, MAX, 0);
        fresh().row(0, 0).asked(-100, "county", 0, 0, 0, 0).faulted(INDEX, "county", 0, 0, 1, 0);
    }

    // ---- promise 3: ofGoer

    @Says("UNKNOWN")
    static void promise3_unknownFromTheFirstThatIsNotThere() {
        unknownGoer("ofGoer", 0, 0);
        of("h25;g31;g41;g51;g61;g71").asked(3, "ofGoer", 0, 1).asked(7, "ofGoer", 4, 1);
    }

    @Says("UNKNOWN; OUTSIDE")
    static void promise3_unknownAheadOfOutside() {
        unknownGoer("ofGoer", 0, 4);
        unknownGoer("ofGoer", 0, -1);
    }

    @Says("Of a GOER: 0 kind, 1 GIRTH, 2 how THICK he is, 3 the FIELD in which he is")
    static void promise3_what0To3() {
        of(FOUR).asked(2, "ofGoer", 2, 0).asked(9, "ofGoer", 2, 1).asked(4, "ofGoer", 2, 2).asked(1, "ofGoer", 2, 3);
        for (int what : beyond(0, 3)) {
            busy().refused(OUTSIDE, "ofGoer", 0, what);
        }
    }

    @Says("Kinds: 0 PLAIN (g); 1 THIEF (t), a PLAIN one; 2 CHILD (c), a THIEF")
    static void promise3_kinds0To2() {
        of("h25;g10;t10;c10").asked(0, "ofGoer", 0, 0).asked(1, "ofGoer", 1, 0).asked(2, "ofGoer", 2, 0);
    }

    @Says("THICK: a PLAIN one GIRTH; a THIEF 1 less; a CHILD half of what a PLAIN one is")
    static void promise3_thickOfEachGirth() {
        int[] ofChild = {0, 0, 1, 1, 2, 2, 3, 3, 4, 4};
        for (int girth = 1; girth <= 9; girth++) {
            of("h25;g" + girth + "0;t" + girth + "0;c" + girth + "0").asked(girth, "ofGoer", 0, 2)
                .asked(girth - 1, "ofGoer", 1, 2).asked(ofChild[girth], "ofGoer", 2, 2);
        }
    }

    @Says("Quotients are cut")
    static void promise3_halfIsCut() {
        of("h25;c10;c90").asked(0, "ofGoer", 0, 2).asked(4, "ofGoer", 1, 2);
    }

    // ---- promise 4: hole

    @Says("UNKNOWN: either, both the same")
    static void promise4_unknownEitherOrTheSame() {
        unknownEither(0, "hole", 0, 0, 0);
    }

    @Says("UNKNOWN: either, both the same; OUTSIDE")
    static void promise4_unknownAheadOfOutside() {
        unknownEither(0, "hole", 0, 0, 3);
        unknownEither(0, "hole", 0, 0, -1);
    }

    @Says("OUTSIDE")
    static void promise4_what0To2() {
        busy().asked(5, "hole", 0, 1, 0).asked(1, "hole", 0, 1, 1).asked(0, "hole", 0, 1, 2);
        for (int what : beyond(0, 2)) {
            busy().refused(OUTSIDE, "hole", 0, 1, what);
        }
    }

    @Says("Of what is between two FIELDS: 0 how great the HOLE is (0: none)")
    static void promise4_howGreat0To9() {
        for (int width = 0; width <= 9; width++) {
            of("h2" + width + ";g10").asked(width, "hole", 0, 1, 0).asked(width, "hole", 1, 0, 0);
        }
    }

    @Says("1 whether it is WORN (1, 0)")
    static void promise4_wornOrNot() {
        of(FOUR).asked(0, "hole", 0, 1, 1).due(0, "go", 0, 1).asked(1, "hole", 0, 1, 1).asked(1, "hole", 1, 0, 1)
            .asked(0, "hole", 0, 2, 1).asked(0, "hole", 0, 3, 1).asked(0, "hole", 1, 2, 1).asked(0, "hole", 1, 3, 1)
            .asked(0, "hole", 2, 3, 1);
    }

    @Says("2 the number of the HEDGE")
    static void promise4_numbersOfHedges() {
        for (int fields = 2; fields <= 5; fields++) {
            Run run = of(open(fields, 0, ";g10"));
            int number = 0;
            for (int a = 0; a < fields; a++) {
                for (int b = a + 1; b < fields; b++) {
                    run.asked(number, "hole", a, b, 2).asked(number, "hole", b, a, 2);
                    number++;
                }
            }
        }
    }

    // ---- promise 5: hoop

    @Says("That HOLE becomes v (0 .. 9; not WORN): what it was")
    static void promise5_v0To9() {
        of("h25;g10").due(5, "hoop", 0, 1, 0).widths(0).due(0, "hoop", 1, 0, 9).widths(9).due(9, "hoop", 0, 1, 9)
            .widths(9).due(9, "hoop", 0, 1, 1).widths(1);
        for (int v : beyond(0, 9)) {
            busy().refused(OUTSIDE, "hoop", 0, 1, v);
        }
    }

    @Says("not WORN")
    static void promise5_notWornThen() {
        Run run = of(open(3, 5, ";g10")).due(4, "go", 0, 1).due(4, "go", 0, 2).due(5, "hoop", 0, 1, 5)
            .asked(0, "hole", 0, 1, 1).asked(1, "hole", 1, 2, 1);
        run.due(3, "years", 1).widths(4, 4, 6);
    }

    @Says("That HOLE becomes v")
    static void promise5_noOtherHole() {
        of("h51234567890;g10").due(0, "hoop", 4, 3, 7).widths(1, 2, 3, 4, 5, 6, 7, 8, 9, 7)
            .due(1, "hoop", 0, 1, 9).widths(9, 2, 3, 4, 5, 6, 7, 8, 9, 7);
    }

    @Says("UNKNOWN: either, both the same")
    static void promise5_unknownEitherOrTheSame() {
        unknownEither(0, "hoop", 0, 0, 1);
    }

    @Says("UNKNOWN: either, both the same; OUTSIDE")
    static void promise5_unknownAheadOfOutside() {
        unknownEither(0, "hoop", 0, 0, -1);
        unknownEither(0, "hoop", 0, 0, 10);
    }

    // ---- promise 6: fatten

    @Says("GIRTH of a GOER becomes v (1 .. 9): what it was")
    static void promise6_v1To9() {
        busy().due(9, "fatten", 2, 1).asked(1, "ofGoer", 2, 1).asked(0, "ofGoer", 2, 2).due(1, "fatten", 2, 9)
            .asked(9, "ofGoer", 2, 1).asked(4, "ofGoer", 2, 2).due(9, "fatten", 2, 9).asked(4, "ofGoer", 0, 1)
            .asked(8, "ofGoer", 1, 1).asked(6, "ofGoer", 3, 1);
        for (int v : beyond(1, 9)) {
            busy().refused(OUTSIDE, "fatten", 2, v);
        }
    }

    @Says("UNKNOWN; OUTSIDE")
    static void promise6_unknownAheadOfOutside() {
        unknownGoer("fatten", 0, 5);
        unknownGoer("fatten", 0, 0);
        unknownGoer("fatten", 0, 10);
    }
}
