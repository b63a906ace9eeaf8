import java.util.Arrays;

/**
 * An enclosed county: fields with hedges between them, a hole in each hedge,
 * and goers of three kinds who come through the holes that they fit.
 */
public final class HedgeHoles {
    public static final int UNKNOWN = -1, OUTSIDE = -2, STATE = -3, FULL = -4, NONE = -9;
    public static final long LOST = Long.MIN_VALUE;

    private static final int NULL_FAULT = 1, CAST_FAULT = 2, INDEX_FAULT = 3, SIZE_FAULT = 4;

    private static final int SHEETS = 4, MOST_CELLS = 60;
    private static final int BYTES = 0, SHORTS = 1, INTS = 2;

    private static final int MOST_FIELDS = 5, MOST_HEDGES = 10, MOST_GOERS = 5;
    private static final int GREATEST = 9, MOST_READINGS = 8, MOST_YEARS = 60, MOST_PAIRS = 20;
    private static final int PLAIN = 0, THIEF = 1, CHILD = 2;

    private static final int TEXT_HEAD = 2, TEXT_GOER = 4;
    private static final int YEARS_ACT = 10, STOP_ACT = 20, OF_GOER = 10;

    // Above any sum of costs along a way, and far from wrapping when two are added.
    private static final int FAR = 1000;

    private final Row[] rows = new Row[SHEETS];
    private final Land land = new Land();
    // What is only tried (a text, a season, another girth) is tried here, so that land stays as it is.
    private final Land trial = new Land();
    private final Notebook notebook = new Notebook();
    private int year = 0;
    private int goings = 0;
    private int traceLeft = 0;
    private int lastFault = 0;

    public HedgeHoles() {
        for (int k = 0; k < SHEETS; k++) {
            rows[k] = new Row();
        }
    }

    // ---- 1 the county

    public int county(int sheet, int lane, int i, int n) {
        lastFault = 0;
        if (!isSheet(sheet)) {
            return UNKNOWN;
        }
        if (!isLane(lane)) {
            return OUTSIDE;
        }
        int fault = rows[sheet].faultAs(lane);
        if (fault == 0 && n < 0) {
            fault = SIZE_FAULT;
        }
        if (fault == 0 && !rows[sheet].spans(i, n)) {
            fault = INDEX_FAULT;
        }
        if (fault != 0) {
            return failed(fault);
        }
        int wrong = firstFaultOfText(rows[sheet], i, n);
        if (wrong != NONE) {
            return -100 - wrong;
        }
        land.become(trial);
        notebook.count = 0;
        year = 0;
        goings = 0;
        return land.goers;
    }

    public int ofGoer(int k, int what) {
        if (!isGoer(k)) {
            return UNKNOWN;
        }
        switch (what) {
            case 0: return land.kind[k];
            case 1: return land.girth[k];
            case 2: return land.thickOf(k);
            case 3: return land.place[k];
            default: return OUTSIDE;
        }
    }

    public int hole(int a, int b, int what) {
        if (!areTwoFields(a, b)) {
            return UNKNOWN;
        }
        int hedge = land.hedgeOf(a, b);
        switch (what) {
            case 0: return land.width[hedge];
            case 1: return isIn(land.worn, hedge) ? 1 : 0;
            case 2: return hedge;
            default: return OUTSIDE;
        }
    }

    public int hoop(int a, int b, int v) {
        if (!areTwoFields(a, b)) {
            return UNKNOWN;
        }
        if (v < 0 || v > GREATEST) {
            return OUTSIDE;
        }
        int hedge = land.hedgeOf(a, b);
        int was = land.width[hedge];
        land.width[hedge] = v;
        land.worn &= ~(1 << hedge);
        return was;
    }

    public int fatten(int k, int v) {
        if (!isGoer(k)) {
            return UNKNOWN;
        }
        if (v < 1 || v > GREATEST) {
            return OUTSIDE;
        }
        int was = land.girth[k];
        land.girth[k] = v;
        return was;
    }

    // ---- 2 goings

    public int go(int k, int field) {
        if (!isGoer(k) || !isField(field)) {
            return UNKNOWN;
        }
        if (!land.canMove(k, field)) {
            return STATE;
        }
        int spare = land.width[land.hedgeOf(land.place[k], field)] - land.thickOf(k);
        land.move(k, field);
        goings++;
        return spare;
    }

    public int years(int n) {
        if (n < 1 || n > MOST_YEARS) {
            return OUTSIDE;
        }
        if (!hasCounty()) {
            return STATE;
        }
        land.age(n);
        year += n;
        return land.openHoles();
    }

    public int stop(int a, int b) {
        if (!areTwoFields(a, b)) {
            return UNKNOWN;
        }
        int hedge = land.hedgeOf(a, b);
        int was = land.width[hedge];
        return land.stopUp(hedge) ? was : STATE;
    }

    public int season(int sheet, int lane, int i, int n, int what) {
        lastFault = 0;
        if (!isSheet(sheet)) {
            return UNKNOWN;
        }
        if (!isLane(lane) || n < 0 || n > MOST_PAIRS || !isAskedOfSeason(what)) {
            return OUTSIDE;
        }
        int fault = rows[sheet].faultAs(lane);
        if (fault == 0 && !rows[sheet].spans(i, 2 * n)) {
            fault = INDEX_FAULT;
        }
        if (fault != 0) {
            return failed(fault);
        }
        if (!hasCounty()) {
            return STATE;
        }
        int refusal = refusalOfPairs(rows[sheet], i, n);
        if (refusal != 0) {
            return refusal;
        }
        int wrong = firstWrongOfSeason(rows[sheet], i, n);
        if (what == 1) {
            return wrong;
        }
        if (wrong != NONE) {
            return -100 - wrong;
        }
        return what == 3 ? goingsTold(rows[sheet], i, n) : ofTrial(what);
    }

    // ---- 3 who comes where

    public int widest(int a, int b) {
        if (!areTwoFields(a, b)) {
            return UNKNOWN;
        }
        for (int v = GREATEST; v > 0; v--) {
            if (isIn(land.reachOf(a, v), b)) {
                return v;
            }
        }
        return 0;
    }

    public int way(int k, int field, int x) {
        if (!isGoer(k) || !isField(field)) {
            return UNKNOWN;
        }
        if (x < -1 || x >= MOST_FIELDS) {
            return OUTSIDE;
        }
        land.measureTo(field, land.thickOf(k), 1, FAR);
        int passed = land.distance[land.place[k]];
        if (passed >= FAR || x > passed) {
            return NONE;
        }
        return x == -1 ? passed + 1 : land.fieldOnWay(k, x);
    }

    public int market(int what) {
        if (what < 0 || what > 1) {
            return OUTSIDE;
        }
        if (!hasCounty()) {
            return STATE;
        }
        int best = 0;
        int comers = land.comersTo(0);
        for (int field = 1; field < land.fields; field++) {
            int others = land.comersTo(field);
            if (Integer.bitCount(others) > Integer.bitCount(comers)) {
                best = field;
                comers = others;
            }
        }
        return what == 0 ? best : comers;
    }

    public int widen(int k, int field) {
        if (!isGoer(k) || !isField(field)) {
            return UNKNOWN;
        }
        land.measureTo(field, land.thickOf(k), 0, 1);
        int tight = land.distance[land.place[k]];
        return tight >= FAR ? NONE : tight;
    }

    public int keep(int k, int field) {
        if (!isGoer(k) || !isField(field)) {
            return UNKNOWN;
        }
        return land.place[k] == field ? NONE : land.fewestToShut(k, field);
    }

    // ---- 4 who fitted

    public int reading(int k, int a, int b, int fits) {
        if (!isGoer(k) || !areTwoFields(a, b)) {
            return UNKNOWN;
        }
        if (fits < 0 || fits > 1) {
            return OUTSIDE;
        }
        if (notebook.count >= MOST_READINGS) {
            return FULL;
        }
        notebook.write(k, land.hedgeOf(a, b), fits == 1);
        return notebook.count - 1;
    }

    public int back(int n) {
        if (n < 0 || n > notebook.count) {
            return OUTSIDE;
        }
        notebook.count -= n;
        return notebook.count;
    }

    public int girths(int k) {
        if (!isGoer(k)) {
            return UNKNOWN;
        }
        trial.become(land);
        int found = 0;
        for (int girth = 1; girth <= GREATEST; girth++) {
            trial.girth[k] = girth;
            found |= notebook.agrees(trial) ? 1 << girth : 0;
        }
        return found;
    }

    public int kinds(int k) {
        if (!isGoer(k)) {
            return UNKNOWN;
        }
        trial.become(land);
        int found = 0;
        for (int kind = PLAIN; kind <= CHILD; kind++) {
            trial.kind[k] = kind;
            found |= notebook.agrees(trial) ? 1 << kind : 0;
        }
        return found;
    }

    public int holes(int a, int b) {
        if (!areTwoFields(a, b)) {
            return UNKNOWN;
        }
        trial.become(land);
        int hedge = land.hedgeOf(a, b);
        int found = 0;
        for (int width = 0; width <= GREATEST; width++) {
            trial.width[hedge] = width;
            found |= notebook.agrees(trial) ? 1 << width : 0;
        }
        return found;
    }

    public long odds(int k, int field, int which) {
        if (!isGoer(k) || !isField(field) || which < 0 || which > 1) {
            return LOST;
        }
        int comes = 0;
        for (int girth = 1; girth <= GREATEST; girth++) {
            int reach = land.reachOf(land.place[k], thickness(land.kind[k], girth));
            comes += isIn(reach, field) ? 1 : 0;
        }
        int common = commonDivisor(comes, GREATEST);
        return which == 0 ? comes / common : GREATEST / common;
    }

    // ---- 5 sheets, parts

    public int sheet(int k, int lane, int n) {
        lastFault = 0;
        if (!isSheet(k)) {
            return UNKNOWN;
        }
        if (!isLane(lane) || n > MOST_CELLS) {
            return OUTSIDE;
        }
        if (n < 0) {
            return failed(SIZE_FAULT);
        }
        rows[k].begin(lane, n);
        return 1;
    }

    public int lose(int k) {
        if (!isSheet(k)) {
            return UNKNOWN;
        }
        int had = rows[k].there ? 1 : 0;
        rows[k].there = false;
        return had;
    }

    public int put(int k, int i, int v) {
        lastFault = 0;
        if (!isSheet(k)) {
            return UNKNOWN;
        }
        if (!rows[k].there) {
            return failed(NULL_FAULT);
        }
        if (!rows[k].spans(i, 1)) {
            return failed(INDEX_FAULT);
        }
        rows[k].cells[i] = cutTo(rows[k].lane, v);
        return 1;
    }

    public long cell(int k, int i, int lane) {
        lastFault = 0;
        if (!isSheet(k) || !isLane(lane)) {
            return LOST;
        }
        int fault = rows[k].faultAs(lane);
        if (fault == 0 && !rows[k].spans(i, 1)) {
            fault = INDEX_FAULT;
        }
        lastFault = fault;
        return fault == 0 ? rows[k].cells[i] : LOST;
    }

    public int copy(int k, int i, int other, int j, int n) {
        lastFault = 0;
        if (!isSheet(k) || !isSheet(other)) {
            return UNKNOWN;
        }
        if (!rows[k].there || !rows[other].there) {
            return failed(NULL_FAULT);
        }
        if (rows[k].lane != rows[other].lane) {
            return failed(CAST_FAULT);
        }
        if (!rows[k].spans(i, n) || !rows[other].spans(j, n)) {
            return failed(INDEX_FAULT);
        }
        System.arraycopy(rows[k].cells, i, rows[other].cells, j, n);
        return n;
    }

    public int tell(int k) {
        if (!isGoer(k)) {
            return UNKNOWN;
        }
        switch (land.kind[k]) {
            case CHILD: return childTells(k);
            case THIEF: return thiefTells(k);
            default: return plainTells(k);
        }
    }

    public int hail(int k) {
        if (!isGoer(k)) {
            return UNKNOWN;
        }
        if (land.kind[k] == CHILD) {
            leaveTrace(5);
            return 90;
        }
        leaveTrace(4);
        return land.place[k];
    }

    public int as(int k, int kind) {
        lastFault = 0;
        if (!isGoer(k)) {
            return UNKNOWN;
        }
        if (kind < PLAIN || kind > CHILD) {
            return OUTSIDE;
        }
        // Each kind is one of all kinds numbered below it, too.
        return land.kind[k] >= kind ? 1 : failed(CAST_FAULT);
    }

    public int trace() {
        return traceLeft;
    }

    public int fault() {
        return lastFault;
    }

    public int many(int what) {
        switch (what) {
            case 0: return land.fields;
            case 1: return land.goers;
            case 2: return year;
            case 3: return goings;
            case 4: return notebook.count;
            default: return OUTSIDE;
        }
    }

    // ---- what numbers name

    private static boolean isSheet(int k) {
        return k >= 0 && k < SHEETS;
    }

    private static boolean isLane(int lane) {
        return lane >= BYTES && lane <= INTS;
    }

    private boolean hasCounty() {
        return land.fields > 0;
    }

    private boolean isGoer(int k) {
        return k >= 0 && k < land.goers;
    }

    private boolean isField(int field) {
        return field >= 0 && field < land.fields;
    }

    private boolean areTwoFields(int a, int b) {
        return isField(a) && isField(b) && a != b;
    }

    private static boolean isAskedOfSeason(int what) {
        return what >= 0 && what <= 4 || what >= OF_GOER && what < OF_GOER + MOST_GOERS;
    }

    private static boolean isIn(int set, int number) {
        return (set >> number & 1) == 1;
    }

    private int failed(int fault) {
        lastFault = fault;
        return -10 - fault;
    }

    // ---- texts and seasons, both tried on the trial land

    /** Reads a text into the trial land: its first fault, or NONE. */
    private int firstFaultOfText(Row row, int from, int n) {
        trial.clear();
        for (int p = 0; p < n; p++) {
            if (!trial.reads(p, row.cells[from + p])) {
                return p;
            }
        }
        return trial.mayEndAt(n) ? NONE : n;
    }

    /** UNKNOWN or OUTSIDE of the first pair that is refused, 0: none is. */
    private int refusalOfPairs(Row row, int from, int n) {
        for (int p = 0; p < n; p++) {
            int first = row.cells[from + 2 * p];
            int second = row.cells[from + 2 * p + 1];
            if (second == YEARS_ACT || second == STOP_ACT) {
                if (first < 0 || first > 9) {
                    return OUTSIDE;
                }
            } else if (second < 0 || second >= MOST_FIELDS) {
                return OUTSIDE;
            } else if (!isGoer(first)) {
                return UNKNOWN;
            }
        }
        return 0;
    }

    /** Acts a season out on the trial land: the first act that can't be, or NONE. */
    private int firstWrongOfSeason(Row row, int from, int n) {
        trial.become(land);
        for (int p = 0; p < n; p++) {
            if (!trial.acts(row.cells[from + 2 * p], row.cells[from + 2 * p + 1])) {
                return p;
            }
        }
        return NONE;
    }

    private static int goingsTold(Row row, int from, int n) {
        int told = 0;
        for (int p = 0; p < n; p++) {
            told += row.cells[from + 2 * p + 1] < MOST_FIELDS ? 1 : 0;
        }
        return told;
    }

    private int ofTrial(int what) {
        switch (what) {
            case 0: return trial.openHoles();
            case 2: return trial.worn;
            case 4: return trial.peopled();
            default: return isGoer(what - OF_GOER) ? trial.place[what - OF_GOER] : NONE;
        }
    }

    // ---- bodies that leave their number

    private int plainTells(int k) {
        leaveTrace(1);
        return land.girth[k];
    }

    private int thiefTells(int k) {
        leaveTrace(2);
        return plainTells(k) + 100;
    }

    private int childTells(int k) {
        leaveTrace(3);
        int asThief = thiefTells(k);
        return asThief + plainTells(k);
    }

    private void leaveTrace(int number) {
        traceLeft = 31 * traceLeft + number;
    }

    // ---- numbers

    private static int thickness(int kind, int girth) {
        switch (kind) {
            case THIEF: return girth - 1;
            case CHILD: return girth / 2;
            default: return girth;
        }
    }

    private static boolean lets(int width, int thick) {
        return width > 0 && width >= thick;
    }

    private static int cutTo(int lane, int v) {
        switch (lane) {
            case BYTES: return (byte) v;
            case SHORTS: return (short) v;
            default: return v;
        }
    }

    /** The greatest divisor of both, where the second is 1 or more. */
    private static int commonDivisor(int upper, int lower) {
        for (int d = lower; d > 1; d--) {
            if (upper % d == 0 && lower % d == 0) {
                return d;
            }
        }
        return 1;
    }

    /** What a digit's code stands for, if it is low .. high; NONE else. */
    private static int digit(int code, int low, int high) {
        return code >= '0' + low && code <= '0' + high ? code - '0' : NONE;
    }

    /** What a sheet has: nothing, or a row of cells of one lane. */
    static final class Row {
        final int[] cells = new int[MOST_CELLS];
        boolean there = false;
        int lane = BYTES;
        int size = 0;

        void begin(int newLane, int newSize) {
            Arrays.fill(cells, 0);
            there = true;
            lane = newLane;
            size = newSize;
        }

        /** The fault of taking what is here as a row of a lane; 0: none. */
        int faultAs(int wanted) {
            if (!there) {
                return NULL_FAULT;
            }
            return lane == wanted ? 0 : CAST_FAULT;
        }

        /** Whether n cells from i on are there. */
        boolean spans(int i, int n) {
            return i >= 0 && i <= size && n >= 0 && n <= size - i;
        }
    }

    /** Readings, the latest last. */
    static final class Notebook {
        final int[] goer = new int[MOST_READINGS];
        final int[] hedge = new int[MOST_READINGS];
        final boolean[] fits = new boolean[MOST_READINGS];
        int count = 0;

        void write(int k, int atHedge, boolean didFit) {
            if (count < MOST_READINGS) {
                goer[count] = k;
                hedge[count] = atHedge;
                fits[count] = didFit;
                count++;
            }
        }

        boolean agrees(Land with) {
            for (int x = 0; x < count; x++) {
                if (lets(with.width[hedge[x]], with.thickOf(goer[x])) != fits[x]) {
                    return false;
                }
            }
            return true;
        }
    }

    /** Fields, holes and goers as they are at one time; no fields: there is no county. */
    static final class Land {
        int fields = 0;
        int goers = 0;
        int worn = 0;
        final int[] width = new int[MOST_HEDGES];
        final int[] kind = new int[MOST_GOERS];
        final int[] girth = new int[MOST_GOERS];
        final int[] place = new int[MOST_GOERS];
        final int[] distance = new int[MOST_FIELDS];

        void clear() {
            fields = 0;
            goers = 0;
            worn = 0;
        }

        void become(Land other) {
            fields = other.fields;
            goers = other.goers;
            worn = other.worn;
            System.arraycopy(other.width, 0, width, 0, MOST_HEDGES);
            System.arraycopy(other.kind, 0, kind, 0, MOST_GOERS);
            System.arraycopy(other.girth, 0, girth, 0, MOST_GOERS);
            System.arraycopy(other.place, 0, place, 0, MOST_GOERS);
        }

        int hedges() {
            return fields * (fields - 1) / 2;
        }

        int hedgeOf(int a, int b) {
            int low = Math.min(a, b);
            int high = Math.max(a, b);
            return low * (2 * fields - low - 1) / 2 + high - low - 1;
        }

        int thickOf(int k) {
            return thickness(kind[k], girth[k]);
        }

        boolean letsBetween(int a, int b, int thick) {
            return a != b && lets(width[hedgeOf(a, b)], thick);
        }

        // -- told by a text

        /** Takes code p of a text; false: no text goes on with it. */
        boolean reads(int p, int code) {
            if (p == 0) {
                return code == 'h';
            }
            if (p == 1) {
                int told = digit(code, 2, MOST_FIELDS);
                fields = told == NONE ? 0 : told;
                return told != NONE;
            }
            int hedge = p - TEXT_HEAD;
            if (hedge < hedges()) {
                width[hedge] = digit(code, 0, GREATEST);
                return width[hedge] != NONE;
            }
            int behind = hedge - hedges();
            return behind < MOST_GOERS * TEXT_GOER && readsGoer(behind / TEXT_GOER, behind % TEXT_GOER, code);
        }

        private boolean readsGoer(int k, int part, int code) {
            switch (part) {
                case 0:
                    return code == ';';
                case 1:
                    kind[k] = kindOf(code);
                    return kind[k] != NONE;
                case 2:
                    girth[k] = digit(code, 1, GREATEST);
                    return girth[k] != NONE;
                default:
                    place[k] = digit(code, 0, fields - 1);
                    goers = k + 1;
                    return place[k] != NONE;
            }
        }

        private static int kindOf(int code) {
            switch (code) {
                case 'g': return PLAIN;
                case 't': return THIEF;
                case 'c': return CHILD;
                default: return NONE;
            }
        }

        /** Whether a text of n codes, all of which were read, is a whole one. */
        boolean mayEndAt(int n) {
            return goers > 0 && n == TEXT_HEAD + hedges() + goers * TEXT_GOER;
        }

        // -- goings

        boolean canMove(int k, int field) {
            return letsBetween(place[k], field, thickOf(k));
        }

        void move(int k, int field) {
            worn |= 1 << hedgeOf(place[k], field);
            place[k] = field;
        }

        void age(int years) {
            for (int y = 0; y < years; y++) {
                for (int h = 0; h < hedges(); h++) {
                    width[h] = isIn(worn, h) ? Math.min(width[h] + 1, GREATEST) : Math.max(width[h] - 1, 0);
                }
                worn = 0;
            }
        }

        boolean stopUp(int hedge) {
            if (hedge >= hedges() || width[hedge] == 0) {
                return false;
            }
            width[hedge] = GREATEST;
            return true;
        }

        /** Does one act of a season, whose pair is not refused; false: it can't be. */
        boolean acts(int first, int second) {
            if (second == YEARS_ACT) {
                age(first);
                return true;
            }
            if (second == STOP_ACT) {
                return stopUp(first);
            }
            if (second >= fields || !canMove(first, second)) {
                return false;
            }
            move(first, second);
            return true;
        }

        int openHoles() {
            int open = 0;
            for (int h = 0; h < hedges(); h++) {
                open += width[h] > 0 ? 1 : 0;
            }
            return open;
        }

        int peopled() {
            int found = 0;
            for (int k = 0; k < goers; k++) {
                found |= 1 << place[k];
            }
            return found;
        }

        // -- who comes where

        /** Fields to which one so thick comes from a field, that one too, as a set. */
        int reachOf(int from, int thick) {
            int found = 1 << from;
            for (int pass = 1; pass < fields; pass++) {
                for (int a = 0; a < fields; a++) {
                    for (int b = 0; b < fields; b++) {
                        if (isIn(found, a) && letsBetween(a, b, thick)) {
                            found |= 1 << b;
                        }
                    }
                }
            }
            return found;
        }

        int comersTo(int field) {
            int found = 0;
            for (int k = 0; k < goers; k++) {
                found |= isIn(reachOf(place[k], thickOf(k)), field) ? 1 << k : 0;
            }
            return found;
        }

        /** Fills distance: the least cost from each field to one, FAR where there is no way. */
        void measureTo(int to, int thick, int fitCost, int tightCost) {
            for (int f = 0; f < fields; f++) {
                distance[f] = f == to ? 0 : FAR;
            }
            for (int pass = 1; pass < fields; pass++) {
                for (int a = 0; a < fields; a++) {
                    for (int b = 0; b < fields; b++) {
                        if (a != b && width[hedgeOf(a, b)] > 0) {
                            int cost = letsBetween(a, b, thick) ? fitCost : tightCost;
                            distance[a] = Math.min(distance[a], distance[b] + cost);
                        }
                    }
                }
            }
        }

        /** Field x of the first of the shortest ways, where measureTo has told that it has so many. */
        int fieldOnWay(int k, int x) {
            int here = place[k];
            for (int step = 0; step < x; step++) {
                here = nearerThan(here, thickOf(k));
            }
            return here;
        }

        private int nearerThan(int here, int thick) {
            for (int b = 0; b < fields; b++) {
                if (letsBetween(here, b, thick) && distance[b] < distance[here]) {
                    return b;
                }
            }
            return here;
        }

        /**
         * The fewest holes to be shut, of several the least set. He is kept just when all holes that
         * he fits between the fields left to him and the others are shut: so to look at each
         * parting of the fields is enough.
         */
        int fewestToShut(int k, int field) {
            int best = (1 << MOST_HEDGES) - 1;
            for (int side = 0; side < 1 << fields; side++) {
                if (isIn(side, place[k]) && !isIn(side, field)) {
                    int shut = fittedAround(side, thickOf(k));
                    best = isFewer(shut, best) ? shut : best;
                }
            }
            return best;
        }

        private int fittedAround(int side, int thick) {
            int found = 0;
            for (int a = 0; a < fields; a++) {
                for (int b = 0; b < fields; b++) {
                    if (isIn(side, a) && !isIn(side, b) && letsBetween(a, b, thick)) {
                        found |= 1 << hedgeOf(a, b);
                    }
                }
            }
            return found;
        }

        private static boolean isFewer(int set, int other) {
            int more = Integer.bitCount(set) - Integer.bitCount(other);
            return more < 0 || more == 0 && set < other;
        }
    }
}
