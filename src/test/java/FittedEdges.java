/** The edges of promises 16 to 21: readings, what follows from them, odds. */
public final class FittedEdges extends Edges {
    public static void main(String[] args) throws Exception {
        run(FittedEdges.class, 16, 21);
    }

    /** Eight readings, all that there may be. */
    private static Run full() {
        Run run = of(FOUR);
        for (int number = 0; number < 8; number++) {
            run.asked(number, "many", 4).due(number, "reading", number % 4, 0, 1 + number % 3, number % 2);
        }
        return run.asked(8, "many", 4);
    }

    /** One goer, one hole, one reading. */
    private static Run read(int width, String goer, int fits) {
        return of("h2" + width + ";" + goer + "0").due(0, "reading", 0, 0, 1, fits);
    }

    // ---- promise 16: reading

    @Says({"A READING: its number", "READINGS, 8 at most, numbered by how many there are"})
    static void promise16_eightAtMost() {
        full().refused(FULL, "reading", 0, 0, 1, 0).refused(FULL, "reading", 3, 3, 2, 1);
    }

    @Says("READINGS, 8 at most, numbered by how many there are")
    static void promise16_aPlaceIsFreeAgain() {
        full().due(7, "back", 1).due(7, "reading", 0, 0, 1, 1).refused(FULL, "reading", 0, 0, 1, 1).due(0, "back", 8)
            .due(0, "reading", 0, 0, 1, 1);
    }

    @Says("OUTSIDE: fits (0, 1); FULL")
    static void promise16_fits0And1() {
        busy().due(2, "reading", 0, 0, 1, 0);
        busy().due(2, "reading", 0, 0, 1, 1);
        for (int fits : beyond(0, 1)) {
            busy().refused(OUTSIDE, "reading", 0, 0, 1, fits);
            full().refused(OUTSIDE, "reading", 0, 0, 1, fits);
        }
    }

    @Says("UNKNOWN: GOER, either FIELD, both the same; OUTSIDE")
    static void promise16_unknownGoer() {
        unknownGoer("reading", 0, 0, 1, 0);
        unknownGoer("reading", 0, 0, 1, 2);
        full().refused(UNKNOWN, "reading", 4, 0, 1, 0).refused(UNKNOWN, "reading", -1, 0, 1, 2);
    }

    @Says("UNKNOWN: GOER, either FIELD, both the same; OUTSIDE")
    static void promise16_unknownEitherFieldOrTheSame() {
        unknownEither(1, "reading", 0, 0, 0, 1);
        unknownEither(1, "reading", 0, 0, 0, 2);
        full().refused(UNKNOWN, "reading", 0, 0, 4, 0).refused(UNKNOWN, "reading", 0, 2, 2, 0);
    }

    @Says("a GOER FITS the HOLE between two FIELDS (1) or not (0)")
    static void promise16_thoughItIsNotSo() {
        // What is read need not be so now; it counts as it is told.
        of("h25;g50;g60").due(0, "reading", 0, 0, 1, 0).due(1, "reading", 1, 1, 0, 1).asked(2, "many", 4)
            .asked(0, "girths", 0).asked(0, "girths", 1).asked(0, "holes", 0, 1).due(1, "back", 1)
            .asked(0b11_1100_0000, "girths", 0).asked(0b00_0001_1111, "holes", 0, 1);
    }

    // ---- promise 17: back

    @Says("The last n READINGS (0 .. as many as there are) are taken back: how many are left. OUTSIDE.")
    static void promise17_nFrom0ToAsManyAsThereAre() {
        for (int n = 0; n <= 8; n++) {
            full().due(8 - n, "back", n).asked(8 - n, "many", 4).refused(OUTSIDE, "back", 9 - n)
                .refused(OUTSIDE, "back", -1);
        }
        for (int n : beyond(0, 8)) {
            full().refused(OUTSIDE, "back", n);
        }
    }

    @Says("(0 .. as many as there are)")
    static void promise17_whereThereAreNone() {
        fresh().asked(0, "back", 0).refused(OUTSIDE, "back", 1).refused(OUTSIDE, "back", -1).refused(OUTSIDE, "back", MIN);
        of(FOUR).asked(0, "back", 0).refused(OUTSIDE, "back", 1).refused(OUTSIDE, "back", MAX);
    }

    @Says("The last n READINGS")
    static void promise17_theLastAreTakenBackNotTheFirst() {
        of("h25;g50").due(0, "reading", 0, 0, 1, 1).due(1, "reading", 0, 0, 1, 0).asked(0, "girths", 0).due(1, "back", 1)
            .asked(0b00_0011_1110, "girths", 0).due(1, "reading", 0, 0, 1, 0).asked(0, "girths", 0).asked(2, "back", 0);
        of("h25;g50").due(0, "reading", 0, 0, 1, 0).due(1, "reading", 0, 0, 1, 1).due(1, "back", 1)
            .asked(0b11_1100_0000, "girths", 0);
    }

    // ---- promise 18: girths

    @Says("UNKNOWN")
    static void promise18_unknown() {
        unknownGoer("girths", 0);
    }

    @Says({"GIRTHS, as a set.", "GIRTHS of a GOER: 1 .. 9"})
    static void promise18_allWithoutReadings() {
        of("h20;g10;t50;c90").asked(1022, "girths", 0).asked(1022, "girths", 1).asked(1022, "girths", 2);
    }

    @Says("GIRTHS of a GOER: 1 .. 9")
    static void promise18_theLeastAlone() {
        read(1, "g5", 1).asked(0b10, "girths", 0);
        read(1, "t5", 1).asked(0b110, "girths", 0);
        read(1, "c5", 1).asked(0b1110, "girths", 0);
    }

    @Says("GIRTHS of a GOER: 1 .. 9")
    static void promise18_theGreatestAlone() {
        read(8, "g5", 0).asked(512, "girths", 0);
        read(7, "t5", 0).asked(512, "girths", 0);
        read(3, "c5", 0).asked(768, "girths", 0);
    }

    @Says("All that follows: in place of what it is alone, by which all READINGS are so")
    static void promise18_noGirthAtAll() {
        read(9, "g5", 0).asked(0, "girths", 0);
        read(8, "t5", 0).asked(0, "girths", 0);
        read(4, "c5", 0).asked(0, "girths", 0);
        read(5, "g5", 1).due(1, "reading", 0, 1, 0, 0).asked(0, "girths", 0);
    }

    @Says("One FITS a HOLE, if there is one")
    static void promise18_whereThereIsNoHole() {
        for (String goer : new String[] {"g1", "t1", "c1"}) {
            read(0, goer, 1).asked(0, "girths", 0);
            read(0, goer, 0).asked(1022, "girths", 0);
        }
    }

    @Says("in place of what it is alone, by which all READINGS are so")
    static void promise18_readingsOfOthersToo() {
        // A reading of goer 1 that is not so leaves goer 0 no girth at all.
        of("h25;g50;g60").due(0, "reading", 1, 0, 1, 1).asked(0, "girths", 0).asked(0b11_1110, "girths", 1)
            .due(6, "fatten", 1, 5).asked(1022, "girths", 0);
    }

    // ---- promise 19: kinds

    @Says("UNKNOWN")
    static void promise19_unknown() {
        unknownGoer("kinds", 0);
    }

    @Says({"KINDS, as a set.", "KINDS of a GOER: 0 .. 2"})
    static void promise19_fromNoneToAllThree() {
        of("h20;g10;t50;c90").asked(7, "kinds", 0).asked(7, "kinds", 1).asked(7, "kinds", 2);
        for (String goer : new String[] {"g9", "t9", "c9"}) {
            read(9, goer, 1).asked(0b111, "kinds", 0);
            read(8, goer, 1).asked(0b110, "kinds", 0);
            read(4, goer, 1).asked(0b100, "kinds", 0);
            read(3, goer, 1).asked(0, "kinds", 0);
            read(9, goer, 0).asked(0, "kinds", 0);
            read(8, goer, 0).asked(0b001, "kinds", 0);
            read(4, goer, 0).asked(0b011, "kinds", 0);
            read(3, goer, 0).asked(0b111, "kinds", 0);
            read(8, goer, 1).due(8, "hoop", 0, 1, 7).asked(0b100, "kinds", 0);
        }
    }

    @Says("One FITS a HOLE, if there is one")
    static void promise19_whereThereIsNoHole() {
        read(0, "g1", 1).asked(0, "kinds", 0);
        read(0, "t1", 0).asked(7, "kinds", 0);
        read(1, "c1", 1).asked(7, "kinds", 0);
    }

    @Says("in place of what it is alone, by which all READINGS are so")
    static void promise19_readingsOfOthersToo() {
        of("h25;g50;g60").due(0, "reading", 1, 0, 1, 1).asked(0, "kinds", 0).asked(0b110, "kinds", 1)
            .due(6, "fatten", 1, 5).asked(7, "kinds", 0);
    }

    // ---- promise 20: holes

    @Says("UNKNOWN: either, both the same")
    static void promise20_unknownEitherOrTheSame() {
        unknownEither(0, "holes", 0, 0);
    }

    @Says({"HOLES, as a set.", "HOLES between two FIELDS: 0 .. 9; as sets"})
    static void promise20_fromNoneToAllTen() {
        read(5, "g9", 1).asked(512, "holes", 0, 1).asked(512, "holes", 1, 0);
        read(5, "g9", 0).asked(511, "holes", 0, 1);
        read(5, "g1", 1).asked(1022, "holes", 0, 1);
        read(5, "g1", 0).asked(1, "holes", 0, 1);
        read(5, "g1", 0).due(1, "reading", 0, 0, 1, 1).asked(0, "holes", 0, 1);
    }

    @Says("One FITS a HOLE, if there is one")
    static void promise20_thickAsNothing() {
        for (String goer : new String[] {"t1", "c1"}) {
            read(0, goer, 1).asked(1022, "holes", 0, 1);
            read(0, goer, 0).asked(1, "holes", 0, 1);
        }
    }

    @Says("in place of what it is alone, by which all READINGS are so")
    static void promise20_readingsOfOthersToo() {
        of("h3555;g50;g60").due(0, "reading", 1, 0, 1, 1).asked(0, "holes", 0, 2).asked(0, "holes", 2, 1)
            .asked(0b11_1100_0000, "holes", 0, 1).due(6, "fatten", 1, 5).asked(1023, "holes", 0, 2);
    }

    // ---- promise 21: odds

    private static void share(Run run, int k, int field, int upper, int lower) {
        run.asked(upper, "odds", k, field, 0).asked(lower, "odds", k, field, 1);
    }

    @Says("Shares are told as upper and lower number (above 0) in least terms")
    static void promise21_inLeastTerms() {
        int[][] shares = {{0, 1}, {1, 9}, {2, 9}, {1, 3}, {4, 9}, {5, 9}, {2, 3}, {7, 9}, {8, 9}, {1, 1}};
        for (int width = 0; width <= 9; width++) {
            Run run = of("h2" + width + ";g50;t50");
            share(run, 0, 1, shares[width][0], shares[width][1]);
            int thiefs = width == 0 ? 0 : Math.min(width + 1, 9);
            share(run, 1, 1, shares[thiefs][0], shares[thiefs][1]);
        }
    }

    @Says("Shares are told as upper and lower number (above 0)")
    static void promise21_aShareOf0() {
        share(of("h20;t10"), 0, 1, 0, 1);
        share(of("h20;c10"), 0, 1, 0, 1);
        share(of("h59000900090;g10"), 0, 3, 0, 1);
    }

    @Says("the share by which he comes there (or is there)")
    static void promise21_orIsThere() {
        share(of("h20;g91"), 0, 1, 1, 1);
        share(of(open(5, 0, ";c94")), 0, 4, 1, 1);
    }

    @Says("ODDS of a GOER and a FIELD: if his GIRTH is any of 1 .. 9, all alike")
    static void promise21_anyGirthOf1To9() {
        int[][] ofChild = {{0, 1}, {1, 3}, {5, 9}, {7, 9}, {1, 1}, {1, 1}};
        for (int width = 0; width <= 5; width++) {
            share(of("h2" + width + ";c10"), 0, 1, ofChild[width][0], ofChild[width][1]);
            share(of("h2" + width + ";c90"), 0, 1, ofChild[width][0], ofChild[width][1]);
        }
        share(of("h29;g10"), 0, 1, 1, 1);
        share(of("h28;g10"), 0, 1, 8, 9);
        share(of("h21;g90"), 0, 1, 1, 9);
    }

    @Says("ODDS (which 0 the upper, 1 the lower number)")
    static void promise21_which0And1() {
        of("h23;g10").asked(1, "odds", 0, 1, 0).asked(3, "odds", 0, 1, 1);
        for (int which : beyond(0, 1)) {
            busy().refused(LOST, "odds", 0, 1, which);
        }
    }

    @Says("LOST: UNKNOWN: GOER, FIELD; OUTSIDE")
    static void promise21_lostIfUnknown() {
        for (int which = 0; which <= 1; which++) {
            unknownGoer("odds", 0, 1, which);
            unknownField(1, "odds", 0, 0, which);
        }
        busy().refused(LOST, "odds", 4, 0, 2).refused(LOST, "odds", 0, 4, -1);
    }
}
