/** The edges of promises 22 to 32: sheets, bodies that leave a trace, faults, how many there are. */
public final class SheetEdges extends Edges {
    public static void main(String[] args) throws Exception {
        run(SheetEdges.class, 22, 32);
    }

    /** Whether a sheet has just these cells. */
    private static Run has(Run run, int sheet, int lane, int... cells) {
        for (int i = 0; i < cells.length; i++) {
            run.asked(cells[i], "cell", sheet, i, lane);
        }
        return run.faulted(INDEX, "cell", sheet, cells.length, lane);
    }

    private static int[] upTo(int n) {
        int[] cells = new int[n];
        for (int i = 0; i < n; i++) {
            cells[i] = i + 1;
        }
        return cells;
    }

    // ---- promise 22: sheet

    @Says("SHEETS 0 .. 3 have nothing (at first)")
    static void promise22_sheets0To3() {
        for (int k = 0; k < 4; k++) {
            has(fresh().due(1, "sheet", k, 0, 1), k, 0, 0);
        }
        for (int k : beyond(0, 3)) {
            busy().refused(UNKNOWN, "sheet", k, 0, 1);
        }
    }

    @Says("SHEETS 0 .. 3 have nothing (at first), or a row of 0 .. 60 numbers (0 at first)")
    static void promise22_rowsOf0To60() {
        for (int lane = 0; lane < 3; lane++) {
            has(fresh().due(1, "sheet", 2, lane, 0), 2, lane);
            has(fresh().due(1, "sheet", 2, lane, 1), 2, lane, 0);
            has(fresh().due(1, "sheet", 2, lane, 60), 2, lane, new int[60]);
        }
    }

    @Says("OUTSIDE: lane, n above 60")
    static void promise22_outsideAbove60() {
        for (int n : new int[] {61, 62, 256, 65536, MAX}) {
            busy().refused(OUTSIDE, "sheet", 1, 2, n).refused(OUTSIDE, "sheet", 3, 0, n);
        }
    }

    @Says("of a LANE: 0 bytes, 1 shorts, 2 ints")
    static void promise22_outsideLane() {
        for (int lane : beyond(0, 2)) {
            busy().refused(OUTSIDE, "sheet", 1, lane, 2);
        }
    }

    @Says("SIZE (a length below 0)")
    static void promise22_sizeBelow0() {
        busy().faulted(SIZE, "sheet", 1, 2, -1).faulted(SIZE, "sheet", 3, 0, -1).faulted(SIZE, "sheet", 0, 1, MIN)
            .due(1, "sheet", 1, 2, 0);
    }

    @Says("UNKNOWN; OUTSIDE: lane, n above 60; SIZE")
    static void promise22_unknownAheadOfOutsideAheadOfSize() {
        busy().refused(UNKNOWN, "sheet", 4, 3, 1).refused(UNKNOWN, "sheet", -1, 0, 61).refused(UNKNOWN, "sheet", 4, 0, -1)
            .refused(OUTSIDE, "sheet", 0, 3, -1).refused(OUTSIDE, "sheet", 0, -1, MIN).refused(OUTSIDE, "sheet", 0, 3, 61);
    }

    @Says("A SHEET gets a new row: 1")
    static void promise22_aNewRowOf0AgainEachTime() {
        Run run = fresh().row(0, 2, upTo(60)).due(1, "sheet", 0, 2, 60);
        has(run, 0, 2, new int[60]);
        has(fresh().row(0, 2, 7, 8, 9).due(1, "sheet", 0, 0, 2).due(1, "sheet", 0, 0, 4), 0, 0, 0, 0, 0, 0);
        has(fresh().row(0, 2, 7, 8, 9).due(1, "lose", 0).due(1, "sheet", 0, 2, 3), 0, 2, 0, 0, 0);
        has(fresh().row(0, 2, 7).row(1, 2, 8).due(1, "sheet", 0, 2, 1), 1, 2, 8);
    }

    // ---- promise 23: lose

    @Says("A SHEET has nothing: 1; 0: it had nothing")
    static void promise23_aRowOf0NumbersIsNotNothing() {
        for (int k = 0; k < 4; k++) {
            fresh().asked(0, "lose", k).due(1, "sheet", k, 1, 0).due(1, "lose", k).asked(0, "lose", k)
                .faulted(NULL, "put", k, 0, 0);
        }
        busy().due(1, "lose", 0).asked(0, "lose", 3).due(1, "lose", 1).asked(-5, "cell", 2, 0, 1);
    }

    @Says("UNKNOWN")
    static void promise23_unknown() {
        for (int k : beyond(0, 3)) {
            busy().refused(UNKNOWN, "lose", k);
        }
    }

    // ---- promise 24: put

    @Says("what comes to a cell of it is cut to its LANE")
    static void promise24_cutToBytes() {
        int[] put = {127, 128, 255, 256, 257, -128, -129, -256, MAX, MIN};
        int[] has = {127, -128, -1, 0, 1, -128, 127, 0, -1, 0};
        has(fresh().row(0, 0, put), 0, 0, has);
    }

    @Says("what comes to a cell of it is cut to its LANE")
    static void promise24_cutToShorts() {
        int[] put = {128, 32767, 32768, 65535, 65536, 65537, -32768, -32769, MAX, MIN};
        int[] has = {128, 32767, -32768, -1, 0, 1, -32768, 32767, -1, 0};
        has(fresh().row(0, 1, put), 0, 1, has);
    }

    @Says("what comes to a cell of it is cut to its LANE")
    static void promise24_intsAsTheyAre() {
        int[] put = {32768, 65536, MAX, MIN, MAX - 1, MIN + 1, -1};
        has(fresh().row(0, 2, put), 0, 2, put);
    }

    @Says("UNKNOWN; NULL; INDEX")
    static void promise24_indexFrom0ToTheLast() {
        for (int lane = 0; lane < 3; lane++) {
            for (int n : new int[] {1, 3, 60}) {
                Run run = fresh().due(1, "sheet", 0, lane, n);
                for (int i : beyond(0, n - 1)) {
                    run.faulted(INDEX, "put", 0, i, 5);
                }
                run.due(1, "put", 0, 0, 6).due(1, "put", 0, n - 1, 5).asked(5, "cell", 0, n - 1, lane);
            }
            fresh().due(1, "sheet", 0, lane, 0).faulted(INDEX, "put", 0, 0, 5).faulted(INDEX, "put", 0, -1, 5);
        }
    }

    @Says("UNKNOWN; NULL; INDEX")
    static void promise24_unknownAheadOfNullAheadOfIndex() {
        for (int k : beyond(0, 3)) {
            busy().refused(UNKNOWN, "put", k, 0, 5).refused(UNKNOWN, "put", k, -1, 5);
        }
        busy().faulted(NULL, "put", 3, 0, 5).faulted(NULL, "put", 3, -1, 5).faulted(NULL, "put", 3, MAX, 5);
    }

    @Says("Cell i of a SHEET becomes v: 1")
    static void promise24_noOtherCell() {
        Run run = fresh().row(0, 2, 1, 2, 3).row(1, 2, 4, 5, 6).due(1, "put", 0, 1, 9);
        has(run, 0, 2, 1, 9, 3);
        has(run, 1, 2, 4, 5, 6);
    }

    // ---- promise 25: cell

    @Says("LOST: UNKNOWN, OUTSIDE: lane; FAULTS CAST (nothing is no CAST), NULL, INDEX")
    static void promise25_lostIfRefused() {
        // A refusal is ahead of the faults, so that fault() is 0.
        for (int k : beyond(0, 3)) {
            busy().refused(LOST, "cell", k, 0, 0).refused(LOST, "cell", k, -1, 3);
        }
        for (int lane : beyond(0, 2)) {
            busy().refused(LOST, "cell", 0, 0, lane).refused(LOST, "cell", 3, 0, lane).refused(LOST, "cell", 0, -1, lane);
        }
    }

    @Says("FAULTS CAST (nothing is no CAST), NULL, INDEX")
    static void promise25_castAheadOfIndex() {
        for (int lane = 0; lane < 3; lane++) {
            for (int as = 0; as < 3; as++) {
                if (lane != as) {
                    busy().row(3, lane, 7).faulted(CAST, "cell", 3, 0, as).faulted(CAST, "cell", 3, 1, as)
                        .faulted(CAST, "cell", 3, -1, as);
                }
            }
            fresh().due(1, "sheet", 0, lane, 0).faulted(CAST, "cell", 0, 0, (lane + 1) % 3);
        }
    }

    @Says("(nothing is no CAST), NULL, INDEX")
    static void promise25_nothingIsNoCast() {
        for (int as = 0; as < 3; as++) {
            busy().faulted(NULL, "cell", 3, 0, as).faulted(NULL, "cell", 3, -1, as);
        }
        // Nor is a sheet that had a row of another lane.
        busy().due(1, "lose", 1).faulted(NULL, "cell", 1, 0, 0);
    }

    @Says("Cell i of what a SHEET has, taken as a row of a LANE")
    static void promise25_indexFrom0ToTheLast() {
        for (int n : new int[] {1, 3, 60}) {
            Run run = fresh().row(0, 0, upTo(n)).asked(1, "cell", 0, 0, 0).asked(n, "cell", 0, n - 1, 0);
            for (int i : beyond(0, n - 1)) {
                run.faulted(INDEX, "cell", 0, i, 0);
            }
        }
        fresh().row(0, 0).faulted(INDEX, "cell", 0, 0, 0);
        // What a longer row had is not there any more.
        fresh().row(0, 0, upTo(9)).due(1, "sheet", 0, 0, 3).faulted(INDEX, "cell", 0, 3, 0);
    }

    // ---- promise 26: copy

    @Says("n cells of a SHEET from i on go to another one (perhaps the same) from j on, as they were: n")
    static void promise26_fromNoCellToAll60() {
        Run run = fresh().row(0, 2, upTo(60)).due(1, "sheet", 1, 2, 60).asked(0, "copy", 0, 0, 1, 0, 0)
            .asked(0, "copy", 0, 60, 1, 60, 0).due(60, "copy", 0, 0, 1, 0, 60);
        run.asked(1, "cell", 1, 0, 2).asked(31, "cell", 1, 30, 2).asked(60, "cell", 1, 59, 2);
        Run part = fresh().row(0, 1, 1, 2, 3, 4).row(3, 1, 5, 6, 7).due(2, "copy", 0, 2, 3, 1, 2);
        has(part, 3, 1, 5, 3, 4);
        has(part, 0, 1, 1, 2, 3, 4);
        has(fresh().row(0, 0, 1, 2).row(1, 0, 5, 6).due(1, "copy", 0, 1, 1, 0, 1), 1, 0, 2, 6);
    }

    @Says("(perhaps the same) from j on, as they were: n")
    static void promise26_theSameSheetBothWays() {
        has(fresh().row(0, 2, 1, 2, 3, 4, 5).due(4, "copy", 0, 0, 0, 1, 4), 0, 2, 1, 1, 2, 3, 4);
        has(fresh().row(0, 2, 1, 2, 3, 4, 5).due(4, "copy", 0, 1, 0, 0, 4), 0, 2, 2, 3, 4, 5, 5);
        has(fresh().row(0, 2, 1, 2, 3, 4, 5).due(5, "copy", 0, 0, 0, 0, 5), 0, 2, 1, 2, 3, 4, 5);
        has(fresh().row(0, 2, 1, 2, 3, 4, 5).due(2, "copy", 0, 3, 0, 0, 2), 0, 2, 4, 5, 3, 4, 5);
    }

    @Says("INDEX: i, j, n below 0 or beyond")
    static void promise26_indexBelow0OrBeyond() {
        // The first has 4 cells, the other 2.
        Run run = busy().row(0, 2, 1, 2, 3, 4).row(3, 2, 5, 6);
        for (int i : new int[] {-1, 4, MIN, MAX}) {
            run.faulted(INDEX, "copy", 0, i, 3, 0, 1);
        }
        for (int j : new int[] {-1, 2, MIN, MAX}) {
            run.faulted(INDEX, "copy", 0, 0, 3, j, 1);
        }
        for (int n : new int[] {-1, 3, 5, MIN, MAX}) {
            run.faulted(INDEX, "copy", 0, 0, 3, 0, n);
        }
        run.faulted(INDEX, "copy", 3, 0, 0, 0, 3).faulted(INDEX, "copy", 3, 1, 0, 0, 2).faulted(INDEX, "copy", 0, 3, 3, 0, 2)
            .faulted(INDEX, "copy", 0, 0, 3, 1, 2).faulted(INDEX, "copy", 0, 0, 0, 1, 4);
        run.due(2, "copy", 0, 2, 3, 0, 2).due(1, "copy", 3, 1, 0, 3, 1);
    }

    @Says("INDEX: i, j, n below 0 or beyond")
    static void promise26_indexWhereTheSumWrapsAround() {
        busy().row(0, 2, 1, 2, 3, 4).row(3, 2, 5, 6).faulted(INDEX, "copy", 0, 1, 3, 0, MAX)
            .faulted(INDEX, "copy", 0, MAX, 3, 0, MAX).faulted(INDEX, "copy", 0, 0, 3, MAX, 1)
            .faulted(INDEX, "copy", 0, MAX, 3, MAX, MAX).faulted(INDEX, "copy", 0, MIN, 3, MIN, MIN)
            .faulted(INDEX, "copy", 0, 2, 3, 2, MIN);
    }

    @Says("of cells from i on also where i is not 0 .. how many there are, if none of them is taken, too")
    static void promise26_indexIfNoneIsTaken() {
        busy().row(0, 2, 1, 2, 3, 4).row(3, 2, 5, 6).asked(0, "copy", 0, 4, 3, 2, 0).asked(0, "copy", 0, 0, 3, 0, 0)
            .faulted(INDEX, "copy", 0, 5, 3, 0, 0).faulted(INDEX, "copy", 0, 0, 3, 3, 0)
            .faulted(INDEX, "copy", 0, -1, 3, 0, 0).faulted(INDEX, "copy", 0, 0, 3, -1, 0)
            .faulted(INDEX, "copy", 0, MAX, 3, 0, 0).faulted(INDEX, "copy", 0, 0, 3, MIN, 0);
        fresh().row(0, 0).asked(0, "copy", 0, 0, 0, 0, 0).faulted(INDEX, "copy", 0, 1, 0, 0, 0)
            .faulted(INDEX, "copy", 0, 0, 0, 0, 1);
    }

    @Says("CAST (unlike LANES)")
    static void promise26_castAheadOfIndex() {
        for (int lane = 0; lane < 3; lane++) {
            for (int other = 0; other < 3; other++) {
                Run run = busy().row(0, lane, 1, 2).row(3, other, 3, 4);
                if (lane != other) {
                    run.faulted(CAST, "copy", 0, 0, 3, 0, 1).faulted(CAST, "copy", 0, 0, 3, 0, 0)
                        .faulted(CAST, "copy", 0, -1, 3, 0, 1).faulted(CAST, "copy", 0, 0, 3, 3, 0)
                        .faulted(CAST, "copy", 0, 0, 3, 0, -1);
                } else {
                    has(run.due(1, "copy", 0, 0, 3, 1, 1), 3, other, 3, 1);
                }
            }
        }
    }

    @Says("FAULTS NULL (the first, the other), CAST (unlike LANES), INDEX")
    static void promise26_nullAheadOfCastAndIndex() {
        // Sheet 0 has bytes, 1 ints, 3 nothing.
        busy().faulted(NULL, "copy", 3, 0, 1, 0, 0).faulted(NULL, "copy", 1, 0, 3, 0, 0).faulted(NULL, "copy", 0, 0, 3, 0, 0)
            .faulted(NULL, "copy", 3, 0, 3, 0, 0).faulted(NULL, "copy", 3, -1, 1, 0, 1)
            .faulted(NULL, "copy", 1, -1, 3, 0, 1).faulted(NULL, "copy", 1, 0, 3, 0, -1);
    }

    @Says("UNKNOWN; FAULTS NULL (the first, the other)")
    static void promise26_unknownAheadOfNull() {
        for (int k : beyond(0, 3)) {
            busy().refused(UNKNOWN, "copy", k, 0, 0, 0, 0).refused(UNKNOWN, "copy", 0, 0, k, 0, 0)
                .refused(UNKNOWN, "copy", k, 0, 3, 0, 0).refused(UNKNOWN, "copy", 3, 0, k, 0, 0)
                .refused(UNKNOWN, "copy", k, -1, k, -1, -1);
        }
    }

    // ---- promise 27: tell

    /** What goers of each kind, of the least and the greatest girth, are told as. */
    @Says({"TELLING of a GOER.", "PLAIN (1): GIRTH. THIEF (2): what PLAIN's gives, and 100"})
    static void promise27_theLeastAndTheGreatestGirth() {
        of("h20;g10;t10;c10").due(1, "tell", 0).due(101, "tell", 1).due(102, "tell", 2);
        of("h20;g90;t90;c90").due(9, "tell", 0).due(109, "tell", 1).due(118, "tell", 2);
    }

    @Says("CHILD (3): what THIEF's gives, and what PLAIN's gives (THIEF's left out)")
    static void promise27_whatAChildIsToldAs() {
        Run run = of("h20;c10");
        for (int girth = 1; girth <= 9; girth++) {
            run.due(girth == 1 ? 1 : girth - 1, "fatten", 0, girth).due(100 + 2 * girth, "tell", 0);
        }
    }

    @Says("UNKNOWN")
    static void promise27_unknown() {
        unknownGoer("tell", 0);
    }

    // ---- promise 28: hail

    @Says({"How he is HAILED.", "HAILED by a lent body (4): the FIELD in which he is; CHILDREN have their own (5): 90"})
    static void promise28_theFirstAndTheLastField() {
        of(open(5, 1, ";g10;t10;g14;t14;c14")).due(0, "hail", 0).due(0, "hail", 1).due(4, "hail", 2).due(4, "hail", 3)
            .due(90, "hail", 4);
    }

    @Says("UNKNOWN")
    static void promise28_unknown() {
        unknownGoer("hail", 0);
    }

    // ---- promise 29: as

    @Says({"A GOER, taken as one of a kind: 1.", "CAST: he is none (each is a PLAIN one, too; a CHILD is a THIEF)"})
    static void promise29_castOfEachKind() {
        of("h20;g10;t10;c10").asked(1, "as", 0, 0).faulted(CAST, "as", 0, 1).faulted(CAST, "as", 0, 2)
            .asked(1, "as", 1, 0).asked(1, "as", 1, 1).faulted(CAST, "as", 1, 2)
            .asked(1, "as", 2, 0).asked(1, "as", 2, 1).asked(1, "as", 2, 2);
    }

    @Says("OUTSIDE; CAST")
    static void promise29_outsideBeyond0To2() {
        for (int kind : beyond(0, 2)) {
            busy().refused(OUTSIDE, "as", 0, kind).refused(OUTSIDE, "as", 2, kind);
        }
    }

    @Says("UNKNOWN; OUTSIDE; CAST")
    static void promise29_unknownAheadOfOutsideAndCast() {
        for (int kind : new int[] {-1, 0, 1, 2, 3}) {
            unknownGoer("as", 0, kind);
        }
    }

    // ---- promise 30: trace

    @Says("0 at first")
    static void promise30_0AtFirst() {
        fresh().asked(0, "trace").refused(UNKNOWN, "tell", 0).refused(UNKNOWN, "hail", 0).asked(0, "trace");
        of(FOUR).asked(0, "trace").asked(1, "as", 2, 2).asked(0, "trace");
    }

    @Says("an int that wraps")
    static void promise30_wraps() {
        Run run = of("h20;g10");
        int[] traces = {4, 128, 3972, 123136, 3817220, 118333824, -626618748, 2049655296};
        for (int trace : traces) {
            run.due(0, "hail", 0).asked(trace, "trace");
        }
    }

    @Says({"TRACE.",
        "TELLING of GOERS by bodies that leave their number in TRACE (",
        "becomes 31 times it and the number) as they begin"})
    static void promise30_inTheOrderInWhichTheyBegin() {
        of("h20;g10;t10;c10").due(1, "tell", 0).asked(1, "trace");
        of("h20;g10;t10;c10").due(101, "tell", 1).asked(2 * 31 + 1, "trace");
        of("h20;g10;t10;c10").due(102, "tell", 2).asked(((3 * 31 + 2) * 31 + 1) * 31 + 1, "trace");
        of("h20;g10;t10;c10").due(0, "hail", 1).asked(4, "trace").due(90, "hail", 2).asked(4 * 31 + 5, "trace");
    }

    // ---- promise 31: fault

    @Says("(0 ahead of any)")
    static void promise31_0AheadOfAny() {
        fresh().due(0, "fault").due(0, "many", 0).due(UNKNOWN, "tell", 0).due(OUTSIDE, "many", 9).due(0, "lose", 0)
            .due(0, "fault");
    }

    @Says({"The FAULT of the latest call that names one",
        "FAULTS are the machine's: 1 NULL (there is nothing), 2 CAST (it is of another lane, kind), 3 INDEX (",
        "4 SIZE (a length below 0)"})
    static void promise31_eachOfTheFour() {
        busy().due(-11, "put", 3, 0, 0).due(1, "fault").due(-12, "as", 0, 1).due(2, "fault").due(-13, "put", 1, 3, 0)
            .due(3, "fault").due(-14, "sheet", 1, 0, -1).due(4, "fault").due(4, "fault").due(-11, "put", 3, 0, 0)
            .due(1, "fault").due(LOST, "cell", 0, 0, 2).due(2, "fault").due(LOST, "cell", 0, -1, 0).due(3, "fault")
            .due(LOST, "cell", 3, 0, 0).due(1, "fault");
    }

    @Says("Of a call the first that is come to, in the order told; it answers -10 less it")
    static void promise31_theFirstFaultThatIsComeTo() {
        // Of each call all faults at once, then one less each time. Sheet 0 has bytes, 3 nothing.
        busy().faulted(CAST, "county", 0, 1, -1, -1).faulted(NULL, "county", 3, 1, -1, -1)
            .faulted(SIZE, "county", 0, 0, -1, -1).faulted(INDEX, "county", 0, 0, -1, 0);
        busy().faulted(CAST, "season", 0, 1, -1, 0, 0).faulted(NULL, "season", 3, 1, -1, 0, 0)
            .faulted(INDEX, "season", 0, 0, -1, 0, 0);
        busy().faulted(NULL, "copy", 3, -1, 0, -1, -1).faulted(NULL, "copy", 0, -1, 3, -1, -1)
            .faulted(CAST, "copy", 0, -1, 1, -1, -1).faulted(INDEX, "copy", 0, -1, 0, -1, -1);
        busy().faulted(NULL, "put", 3, -1, 0).faulted(INDEX, "put", 0, -1, 0);
    }

    @Says("(LOST, where a long is answered, as for refusals) and changes nothing; fault() tells it")
    static void promise31_lostWhereALongIsAnswered() {
        busy().faulted(CAST, "cell", 0, -1, 1).faulted(NULL, "cell", 3, -1, 1).faulted(INDEX, "cell", 0, -1, 0)
            .refused(LOST, "cell", 4, 0, 0).refused(LOST, "cell", 0, 0, 3).refused(LOST, "odds", 4, 0, 0)
            .refused(LOST, "odds", 0, 4, 0).refused(LOST, "odds", 0, 0, 2);
    }

    @Says("they change nothing (but fault(), of a call that names FAULTS)")
    static void promise31_refusalsOfEachKind() {
        // The first four name no faults, so that even fault() stays.
        busy().refused(UNKNOWN, "go", 4, 0).refused(OUTSIDE, "years", 61).refused(STATE, "stop", 0, 2)
            .due(0, "back", 2).due(0, "reading", 0, 0, 1, 1).due(1, "reading", 0, 0, 1, 1).due(2, "reading", 0, 0, 1, 1)
            .due(3, "reading", 0, 0, 1, 1).due(4, "reading", 0, 0, 1, 1).due(5, "reading", 0, 0, 1, 1)
            .due(6, "reading", 0, 0, 1, 1).due(7, "reading", 0, 0, 1, 1).refused(FULL, "reading", 0, 0, 1, 1)
            .refused(UNKNOWN, "as", 4, 0).refused(OUTSIDE, "sheet", 0, 0, 61);
        fresh().row(0, 0).refused(STATE, "season", 0, 0, 0, 0, 0);
    }

    @Says("REFUSALS, in the order in which a call's line tells them: UNKNOWN (there is no such GOER, FIELD, SHEET, place of"
        + " a row), OUTSIDE (another number is not as told), STATE (as told), FULL; they change nothing")
    static void promise31_theOrderOfRefusals() {
        // Of each call that has several all at once, then without the first of them, and so on.
        Run run = busy();
        for (int n = 2; n < 8; n++) {
            run.due(n, "reading", 0, 0, 1, 1);
        }
        run.refused(UNKNOWN, "ofGoer", 4, 4).refused(OUTSIDE, "ofGoer", 0, 4)
            .refused(UNKNOWN, "hole", 0, 0, 3).refused(OUTSIDE, "hole", 0, 1, 3)
            .refused(UNKNOWN, "hoop", 0, 4, 10).refused(OUTSIDE, "hoop", 0, 1, 10)
            .refused(UNKNOWN, "fatten", 4, 0).refused(OUTSIDE, "fatten", 0, 0)
            .refused(UNKNOWN, "go", 4, 0).refused(UNKNOWN, "go", 0, 4).refused(STATE, "go", 0, 0)
            .refused(UNKNOWN, "stop", 2, 2).refused(STATE, "stop", 0, 2)
            .refused(UNKNOWN, "way", 0, 4, 5).refused(OUTSIDE, "way", 0, 0, 5)
            .refused(UNKNOWN, "reading", 4, 0, 1, 2).refused(UNKNOWN, "reading", 0, 1, 1, 2)
            .refused(OUTSIDE, "reading", 0, 0, 1, 2).refused(FULL, "reading", 0, 0, 1, 0)
            .refused(LOST, "odds", 4, 4, 2).refused(LOST, "odds", 0, 0, 2)
            .refused(UNKNOWN, "as", 4, 3).refused(OUTSIDE, "as", 0, 3).faulted(CAST, "as", 0, 2)
            .refused(UNKNOWN, "sheet", 4, 3, -1).refused(OUTSIDE, "sheet", 0, 3, -1).faulted(SIZE, "sheet", 0, 2, -1)
            .refused(UNKNOWN, "county", 4, 3, -1, -1).refused(OUTSIDE, "county", 3, 3, -1, -1)
            .faulted(NULL, "county", 3, 2, -1, -1)
            .refused(UNKNOWN, "season", 4, 3, -1, 21, 5).refused(OUTSIDE, "season", 3, 3, -1, 20, 0)
            .refused(OUTSIDE, "season", 3, 2, -1, 21, 0).refused(OUTSIDE, "season", 3, 2, -1, 20, 5)
            .faulted(NULL, "season", 3, 2, -1, 20, 0);
        fresh().refused(OUTSIDE, "years", 0).refused(STATE, "years", 1).refused(OUTSIDE, "market", 2)
            .refused(STATE, "market", 0).row(1, 2, 9, 9).faulted(INDEX, "season", 1, 2, 0, 2, 0)
            .refused(STATE, "season", 1, 2, 0, 1, 0);
        of("h25;g30").season(OUTSIDE, 0, 9, 9).season(UNKNOWN, 0, 1, 1).season(-100, 0, 0, 0);
    }

    @Says("0: it came to none, or was refused")
    static void promise31_0IfItCameToNone() {
        // Each is tried behind a fault.
        busy().asked(-101, "county", 0, 0, 0, 1).asked(NONE, "season", 1, 2, 0, 0, 1).asked(-5, "cell", 2, 0, 1)
            .asked(0, "copy", 0, 0, 0, 0, 0).asked(1, "as", 0, 0);
        Run run = busy();
        run.due(-11, "put", 3, 0, 0).due(1, "sheet", 3, 0, 2).due(0, "fault").due(-13, "put", 3, 2, 0)
            .due(1, "put", 3, 1, 0).due(0, "fault").due(-14, "sheet", 3, 0, -1).due(4, "county", 0, 0, 0, 24)
            .due(0, "fault");
    }

    @Says("0: it came to none, or was refused")
    static void promise31_0IfItWasRefused() {
        busy().refused(UNKNOWN, "county", 4, 0, 0, 0).refused(OUTSIDE, "county", 0, 3, 0, 0)
            .refused(UNKNOWN, "season", 4, 0, 0, 0, 0).refused(OUTSIDE, "season", 1, 2, 0, 21, 0)
            .refused(UNKNOWN, "sheet", 4, 0, 0).refused(OUTSIDE, "sheet", 0, 0, 61).refused(UNKNOWN, "put", 4, 0, 0)
            .refused(LOST, "cell", 4, 0, 0).refused(LOST, "cell", 0, 0, 3).refused(UNKNOWN, "copy", 4, 0, 0, 0, 0)
            .refused(UNKNOWN, "copy", 0, 0, 4, 0, 0).refused(UNKNOWN, "as", 4, 0).refused(OUTSIDE, "as", 0, 3);
        fresh().row(0, 0).refused(STATE, "season", 0, 0, 0, 0, 0);
        busy().season(UNKNOWN, 1, 4, 0).season(OUTSIDE, 1, 0, 5);
    }

    @Says("The FAULT of the latest call that names one")
    static void promise31_callsThatNameNoneLeaveIt() {
        Run run = busy().due(-13, "put", 0, 24, 0);
        run.due(3, "fault").due(4, "ofGoer", 0, 1).due(3, "fault").due(5, "hole", 0, 1, 0).due(3, "fault")
            .due(5, "hoop", 0, 1, 5).due(3, "fault").due(4, "fatten", 0, 4).due(3, "fault").due(1, "go", 0, 1)
            .due(3, "fault").due(4, "years", 1).due(3, "fault").due(6, "stop", 0, 1).due(3, "fault")
            .due(9, "widest", 0, 1).due(3, "fault").due(1, "way", 0, 1, -1).due(3, "fault").due(2, "market", 0)
            .due(3, "fault").due(0, "widen", 0, 1).due(3, "fault").due(NONE, "keep", 0, 1).due(3, "fault")
            .due(2, "reading", 0, 0, 1, 1).due(3, "fault").due(2, "back", 1).due(3, "fault")
            .due(1022, "girths", 0).due(3, "fault").due(7, "kinds", 0).due(3, "fault")
            .due(0b11_1111_0000, "holes", 0, 1).due(3, "fault").due(1, "odds", 0, 1, 0).due(3, "fault")
            .due(1, "lose", 2).due(3, "fault").due(4, "tell", 0).due(3, "fault").due(1, "hail", 0).due(3, "fault")
            .due(4, "many", 0).due(3, "fault");
        run.due(UNKNOWN, "lose", 4).due(UNKNOWN, "go", 4, 0).due(STATE, "go", 0, 1).due(OUTSIDE, "years", 0)
            .due(LOST, "odds", 4, 0, 0).due(3, "fault");
    }

    // ---- promise 32: many

    @Says("How many: 0 FIELDS, 1 GOERS, 2 which YEAR it is, 3 how often anybody went (by go()), 4 READINGS")
    static void promise32_what0To4() {
        busy().asked(4, "many", 0).asked(4, "many", 1).asked(1, "many", 2).asked(2, "many", 3).asked(2, "many", 4);
        for (int what : beyond(0, 4)) {
            busy().refused(OUTSIDE, "many", what);
            fresh().refused(OUTSIDE, "many", what);
        }
    }

    @Says("(0 all without a COUNTY). OUTSIDE.")
    static void promise32_0AllWithoutACounty() {
        Run run = fresh().notTaken(16, "h3999;g90;t91;c93").refused(STATE, "years", 1).refused(UNKNOWN, "go", 0, 1);
        for (int what = 0; what < 5; what++) {
            fresh().asked(0, "many", what);
            run.asked(0, "many", what);
        }
    }

    @Says("3 how often anybody went (by go())")
    static void promise32_onlyByGo() {
        of(FOUR).season(2, 3, 0, 3, 0, 0).asked(0, "many", 3).refused(STATE, "go", 0, 2).asked(0, "many", 3)
            .due(3, "go", 0, 3).asked(1, "many", 3).due(0, "go", 2, 0).asked(2, "many", 3);
    }
}
