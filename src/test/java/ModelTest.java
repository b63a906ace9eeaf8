import java.math.BigInteger;
import java.util.ArrayList;
import java.util.Arrays;
import java.util.List;
import java.util.Random;
import java.util.TreeSet;
import java.util.regex.Matcher;
import java.util.regex.Pattern;

/**
 * Long runs of calls with fixed seeds, each answer compared with that of a plain model, which
 * is written otherwise on purpose: it lists all ways and all sets of hedges, keeps goers as objects
 * and rows as real arrays, and lets the machine find the faults.
 */
public final class ModelTest {
    private static final int RUNS = 1500, CALLS = 512;
    private static final long LOST = Long.MIN_VALUE;
    private static final List<String> NAMES = Calls.names();
    private static final int[] EDGES = {Integer.MIN_VALUE, Integer.MIN_VALUE + 1, -129, -10, -2, -1, 20, 21, 59, 60, 61,
        255, 256, 65536 + 3, Integer.MAX_VALUE - 1, Integer.MAX_VALUE};

    private static int wrong = 0;
    private final Random random;
    private final HedgeHoles object = new HedgeHoles();
    private final Model model = new Model();
    private final List<String> told = new ArrayList<>();
    private boolean stray = false;

    private ModelTest(long seed) {
        random = new Random(seed);
    }

    public static void main(String[] args) {
        for (int run = 0; run < RUNS && wrong == 0; run++) {
            new ModelTest(run).run();
        }
        System.out.println(wrong == 0 ? "object and model agree" : "object and model differ");
        if (wrong != 0) {
            System.exit(1);
        }
    }

    private void run() {
        while (told.size() < CALLS && !stray) {
            int choice = random.nextInt(100);
            if (choice < 4 || model.fields == 0 && choice < 70) {
                tellText();
            } else if (choice < 12) {
                tellSeason();
            } else if (choice < 22) {
                readTruly();
            } else {
                anyCall();
            }
        }
    }

    // ---- what is called

    private void tellText() {
        String text = random.nextInt(3) == 0 ? spoiled(anyText()) : anyText();
        int lane = random.nextInt(3);
        int from = random.nextInt(4);
        call("sheet", 0, lane, Math.min(60, from + text.length() + random.nextInt(3)));
        for (int x = 0; x < text.length(); x++) {
            call("put", 0, from + x, text.charAt(x));
        }
        call("county", 0, lane, from, text.length());
    }

    private String anyText() {
        int fields = 2 + random.nextInt(4);
        StringBuilder b = new StringBuilder("h").append(fields);
        int open = random.nextInt(11);
        for (int h = 0; h < fields * (fields - 1) / 2; h++) {
            b.append(random.nextInt(10) < open ? random.nextInt(10) : 0);
        }
        int goers = 1 + random.nextInt(5);
        for (int k = 0; k < goers; k++) {
            b.append(';').append("gtc".charAt(random.nextInt(3))).append(1 + random.nextInt(9)).append(random.nextInt(fields));
        }
        return b.toString();
    }

    private String spoiled(String text) {
        int at = random.nextInt(text.length() + 1);
        char sign = "0123456789;gtchx:/\0".charAt(random.nextInt(19));
        switch (random.nextInt(4)) {
            case 0: return text.substring(0, at);
            case 1: return text.substring(0, at) + sign + text.substring(at);
            case 2: return text + ";g10;t10;c10";
            default: return at == text.length() ? text : text.substring(0, at) + sign + text.substring(at + 1);
        }
    }

    private void tellSeason() {
        int pairs = random.nextInt(8);
        int lane = random.nextInt(3);
        call("sheet", 1, lane, 2 * pairs + random.nextInt(2));
        for (int p = 0; p < pairs; p++) {
            int kind = random.nextInt(12);
            call("put", 1, 2 * p, kind < 8 ? random.nextInt(5) : random.nextInt(10));
            call("put", 1, 2 * p + 1, kind < 8 ? random.nextInt(5) : kind < 10 ? 10 : kind < 11 ? 20 : any());
        }
        for (int what = 0; what < 15; what++) {
            call("season", 1, lane, 0, pairs, what);
        }
    }

    private void readTruly() {
        if (model.fields == 0) {
            return;
        }
        int k = random.nextInt(model.goers.size());
        int a = random.nextInt(model.fields);
        int b = (a + 1 + random.nextInt(model.fields - 1)) % model.fields;
        int fits = model.goers.get(k).fits(model.hole[a][b]) ? 1 : 0;
        call("reading", k, a, b, random.nextInt(8) == 0 ? 1 - fits : fits);
        call("girths", k);
        call("kinds", k);
        call("holes", a, b);
    }

    private void anyCall() {
        String name = NAMES.get(random.nextInt(NAMES.size()));
        int[] with = new int[Calls.taken(name)];
        for (int x = 0; x < with.length; x++) {
            with[x] = any();
        }
        call(name, with);
    }

    private int any() {
        int choice = random.nextInt(40);
        return choice == 0 ? EDGES[random.nextInt(EDGES.length)]
            : choice < 4 ? random.nextInt(12) - 1 : random.nextInt(choice < 20 ? 5 : 3);
    }

    private void call(String name, int... with) {
        if (told.size() >= CALLS || stray) {
            return;
        }
        told.add(name + Arrays.toString(with));
        long got = Calls.of(object, name, with);
        long want = model.answer(name, with);
        if (got != want) {
            stray = true;
            wrong++;
            System.out.println(String.join("\n", told));
            System.out.println("answered " + got + ", due is " + want);
        }
    }

    // ---- the model

    private static final class Refused extends RuntimeException {
        private static final long serialVersionUID = 1L;
        final int answer;

        Refused(int answer) {
            this.answer = answer;
        }
    }

    /** How one is hailed, lent to all who have no way of their own. */
    private interface Hailed {
        Plain self();

        default int hailed() {
            self().home.leave(4);
            return self().field;
        }
    }

    private static class Plain implements Hailed {
        Model home;
        int girth;
        int field;

        public Plain self() {
            return this;
        }

        int thick() {
            return girth;
        }

        int told() {
            return plain();
        }

        final int plain() {
            home.leave(1);
            return girth;
        }

        final boolean fits(int hole) {
            return hole != 0 && thick() <= hole;
        }
    }

    private static class Thief extends Plain {
        int thick() {
            return super.thick() - 1;
        }

        int told() {
            home.leave(2);
            return super.told() + 100;
        }
    }

    private static final class Child extends Thief {
        int thick() {
            return girth / 2;
        }

        int told() {
            home.leave(3);
            int first = super.told();
            return first + plain();
        }

        public int hailed() {
            home.leave(5);
            return 90;
        }
    }

    private static Plain born(Model home, int kind, int girth, int field) {
        Plain p = kind == 0 ? new Plain() : kind == 1 ? new Thief() : new Child();
        p.home = home;
        p.girth = girth;
        p.field = field;
        return p;
    }

    private static final class Model {
        int fields = 0;
        int[][] hole = new int[5][5];
        boolean[][] worn = new boolean[5][5];
        List<Plain> goers = new ArrayList<>();
        List<int[]> readings = new ArrayList<>();
        Object[] sheets = new Object[4];
        int year, went, trace, fault;

        void leave(int number) {
            trace = trace * 31 + number;
        }

        static void need(boolean holds, int refusal) {
            if (!holds) {
                throw new Refused(refusal);
            }
        }

        void goer(int k) {
            need(k >= 0 && k < goers.size(), -1);
        }

        void field(int f) {
            need(f >= 0 && f < fields, -1);
        }

        void two(int a, int b) {
            field(a);
            field(b);
            need(a != b, -1);
        }

        static void within(int v, int low, int high) {
            need(v >= low && v <= high, -2);
        }

        void set(int a, int b, int v) {
            hole[a][b] = v;
            hole[b][a] = v;
        }

        void wear(int a, int b, boolean is) {
            worn[a][b] = is;
            worn[b][a] = is;
        }

        int hedge(int a, int b) {
            int number = 0;
            for (int p = 0; p < fields; p++) {
                for (int q = p + 1; q < fields; q++, number++) {
                    if (p == a && q == b || p == b && q == a) {
                        return number;
                    }
                }
            }
            throw new IllegalStateException();
        }

        int kind(Plain p) {
            return p instanceof Child ? 2 : p instanceof Thief ? 1 : 0;
        }

        long answer(String name, int[] a) {
            boolean isLong = name.equals("odds") || name.equals("cell");
            boolean names = List.of("county", "season", "sheet", "put", "cell", "copy", "as").contains(name);
            if (names) {
                fault = 0;
            }
            try {
                return perform(name, a);
            } catch (Refused r) {
                return isLong ? LOST : r.answer;
            } catch (NullPointerException e) {
                fault = 1;
            } catch (ClassCastException | ArrayStoreException e) {
                fault = 2;
            } catch (IndexOutOfBoundsException e) {
                fault = 3;
            } catch (NegativeArraySizeException e) {
                fault = 4;
            }
            return isLong ? LOST : -10 - fault;
        }

        long perform(String name, int[] a) {
            switch (name) {
                case "county": return county(a);
                case "season": return season(a);
                case "ofGoer": goer(a[0]); within(a[1], 0, 3); return ofGoer(goers.get(a[0]), a[1]);
                case "hole": two(a[0], a[1]); within(a[2], 0, 2); return a[2] == 0 ? hole[a[0]][a[1]]
                    : a[2] == 1 ? (worn[a[0]][a[1]] ? 1 : 0) : hedge(a[0], a[1]);
                case "hoop": two(a[0], a[1]); within(a[2], 0, 9); return hoop(a[0], a[1], a[2]);
                case "fatten": goer(a[0]); within(a[1], 1, 9); return fatten(goers.get(a[0]), a[1]);
                case "go": goer(a[0]); field(a[1]); return go(goers.get(a[0]), a[1]);
                case "years": within(a[0], 1, 60); need(fields > 0, -3); return years(a[0]);
                case "stop": two(a[0], a[1]); need(hole[a[0]][a[1]] > 0, -3); return stop(a[0], a[1]);
                case "widest": two(a[0], a[1]); return widest(a[0], a[1]);
                case "way": goer(a[0]); field(a[1]); within(a[2], -1, 4); return way(goers.get(a[0]), a[1], a[2]);
                case "market": within(a[0], 0, 1); need(fields > 0, -3); return market(a[0]);
                case "widen": goer(a[0]); field(a[1]); return widen(goers.get(a[0]), a[1]);
                case "keep": goer(a[0]); field(a[1]); return keep(goers.get(a[0]), a[1]);
                case "reading": goer(a[0]); two(a[1], a[2]); within(a[3], 0, 1); need(readings.size() < 8, -4);
                    readings.add(a.clone()); return readings.size() - 1;
                case "back": within(a[0], 0, readings.size());
                    readings = new ArrayList<>(readings.subList(0, readings.size() - a[0])); return readings.size();
                case "girths": goer(a[0]); return girths(a[0]);
                case "kinds": goer(a[0]); return kinds(a[0]);
                case "holes": two(a[0], a[1]); return holes(a[0], a[1]);
                case "odds": goer(a[0]); field(a[1]); within(a[2], 0, 1); return odds(goers.get(a[0]), a[1], a[2]);
                case "tell": goer(a[0]); return goers.get(a[0]).told();
                case "hail": goer(a[0]); return goers.get(a[0]).hailed();
                case "as": goer(a[0]); within(a[1], 0, 2); return as(goers.get(a[0]), a[1]);
                case "trace": return trace;
                case "fault": return fault;
                case "many": within(a[0], 0, 4);
                    return new int[] {fields, goers.size(), year, went, readings.size()}[a[0]];
                default: return onSheets(name, a);
            }
        }

        // -- sheets, by the machine's own arrays

        void sheetThere(int k) {
            need(k >= 0 && k < 4, -1);
        }

        long onSheets(String name, int[] a) {
            sheetThere(a[0]);
            switch (name) {
                case "sheet":
                    within(a[1], 0, 2);
                    need(a[2] <= 60, -2);
                    sheets[a[0]] = a[1] == 0 ? new byte[a[2]] : a[1] == 1 ? new short[a[2]] : new int[a[2]];
                    return 1;
                case "lose":
                    boolean had = sheets[a[0]] != null;
                    sheets[a[0]] = null;
                    return had ? 1 : 0;
                case "put":
                    return put(sheets[a[0]], a[1], a[2]);
                case "cell":
                    within(a[2], 0, 2);
                    return a[2] == 0 ? ((byte[]) sheets[a[0]])[a[1]] : a[2] == 1 ? ((short[]) sheets[a[0]])[a[1]]
                        : ((int[]) sheets[a[0]])[a[1]];
                default:
                    sheetThere(a[2]);
                    System.arraycopy(sheets[a[0]], a[1], sheets[a[2]], a[3], a[4]);
                    return a[4];
            }
        }

        static int put(Object row, int i, int v) {
            if (row instanceof byte[] bytes) {
                bytes[i] = (byte) v;
            } else if (row instanceof short[] shorts) {
                shorts[i] = (short) v;
            } else {
                ((int[]) row)[i] = v;
            }
            return 1;
        }

        int[] cells(int sheet, int lane, int from, int n) {
            Object row = sheets[sheet];
            Object typed = lane == 0 ? (byte[]) row : lane == 1 ? (short[]) row : (int[]) row;
            if (typed == null) {
                throw new NullPointerException();
            }
            Object taken = lane == 0 ? new byte[n] : lane == 1 ? new short[n] : new int[n > 60 ? 61 : n];
            System.arraycopy(typed, from, taken, 0, n);
            int[] as = new int[n];
            for (int x = 0; x < n; x++) {
                as[x] = ((Number) java.lang.reflect.Array.get(taken, x)).intValue();
            }
            return as;
        }

        // -- the county

        long county(int[] a) {
            sheetThere(a[0]);
            within(a[1], 0, 2);
            // So great a row is never made: it is beyond any sheet, whatever it is asked for.
            int n = Math.min(a[3], 61);
            StringBuilder b = new StringBuilder();
            for (int code : cells(a[0], a[1], a[2], n)) {
                b.append(code > 0 && code < 128 ? (char) code : '?');
            }
            int bad = firstFault(b.toString());
            if (bad >= 0) {
                return -100 - bad;
            }
            takeText(b.toString());
            return goers.size();
        }

        static int firstFault(String text) {
            for (int n = 1; n <= text.length(); n++) {
                if (!goesOn(text.substring(0, n), false)) {
                    return n - 1;
                }
            }
            return goesOn(text, true) ? -1 : text.length();
        }

        static boolean goesOn(String text, boolean whole) {
            for (int f = 2; f <= 5; f++) {
                int hedges = f * (f - 1) / 2;
                Matcher m = Pattern.compile("h" + f + "[0-9]{" + hedges + "}(;[gtc][1-9][0-" + (f - 1) + "]){1,5}")
                    .matcher(text);
                if (m.matches() || !whole && m.hitEnd()) {
                    return true;
                }
            }
            return false;
        }

        void takeText(String text) {
            String[] parts = text.split(";");
            fields = parts[0].charAt(1) - '0';
            hole = new int[5][5];
            worn = new boolean[5][5];
            int at = 2;
            for (int p = 0; p < fields; p++) {
                for (int q = p + 1; q < fields; q++) {
                    set(p, q, parts[0].charAt(at++) - '0');
                }
            }
            goers = new ArrayList<>();
            for (int k = 1; k < parts.length; k++) {
                goers.add(born(this, "gtc".indexOf(parts[k].charAt(0)), parts[k].charAt(1) - '0', parts[k].charAt(2) - '0'));
            }
            readings = new ArrayList<>();
            year = 0;
            went = 0;
        }

        int ofGoer(Plain p, int what) {
            return new int[] {kind(p), p.girth, p.thick(), p.field}[what];
        }

        int hoop(int a, int b, int v) {
            int was = hole[a][b];
            set(a, b, v);
            wear(a, b, false);
            return was;
        }

        int fatten(Plain p, int v) {
            int was = p.girth;
            p.girth = v;
            return was;
        }

        static long as(Plain p, int kind) {
            Plain taken = kind == 0 ? p : kind == 1 ? (Thief) p : (Child) p;
            return taken == null ? 0 : 1;
        }

        // -- goings

        int go(Plain p, int to) {
            int v = hole[p.field][to];
            need(p.field != to && p.fits(v), -3);
            wear(p.field, to, true);
            p.field = to;
            went++;
            return v - p.thick();
        }

        int years(int n) {
            for (int y = 0; y < n; y++) {
                for (int p = 0; p < 5; p++) {
                    for (int q = 0; q < 5; q++) {
                        int v = hole[p][q];
                        hole[p][q] = worn[p][q] ? (v == 9 ? 9 : v + 1) : v == 0 ? 0 : v - 1;
                        worn[p][q] = false;
                    }
                }
            }
            year += n;
            return open();
        }

        int open() {
            int n = 0;
            for (int p = 0; p < 5; p++) {
                for (int q = 0; q < p; q++) {
                    n += hole[p][q] > 0 ? 1 : 0;
                }
            }
            return n;
        }

        int stop(int a, int b) {
            int was = hole[a][b];
            set(a, b, 9);
            return was;
        }

        Model other() {
            Model m = new Model();
            m.fields = fields;
            for (int p = 0; p < 5; p++) {
                m.hole[p] = hole[p].clone();
                m.worn[p] = worn[p].clone();
            }
            for (Plain p : goers) {
                m.goers.add(born(m, kind(p), p.girth, p.field));
            }
            m.readings = new ArrayList<>(readings);
            return m;
        }

        long season(int[] a) {
            sheetThere(a[0]);
            within(a[1], 0, 2);
            within(a[3], 0, 20);
            need(a[4] >= 0 && a[4] <= 4 || a[4] >= 10 && a[4] <= 14, -2);
            int[] row = cells(a[0], a[1], a[2], 2 * a[3]);
            need(fields > 0, -3);
            for (int x = 0; x < row.length; x += 2) {
                boolean other = row[x + 1] == 10 || row[x + 1] == 20;
                need(other || row[x + 1] >= 0 && row[x + 1] <= 4, -2);
                need(!other || row[x] >= 0 && row[x] <= 9, -2);
                need(other || row[x] >= 0 && row[x] < goers.size(), -1);
            }
            Model m = other();
            for (int x = 0; x < row.length; x += 2) {
                if (!m.acted(row[x], row[x + 1])) {
                    return a[4] == 1 ? x / 2 : -100 - x / 2;
                }
            }
            return a[4] == 1 ? -9 : m.then(a[4]);
        }

        boolean acted(int first, int second) {
            try {
                if (second == 10) {
                    years(first);
                } else if (second == 20) {
                    for (int p = 0; p < fields; p++) {
                        for (int q = p + 1; q < fields; q++) {
                            if (hedge(p, q) == first) {
                                need(hole[p][q] > 0, -3);
                                stop(p, q);
                                return true;
                            }
                        }
                    }
                    return false;
                } else {
                    field(second);
                    go(goers.get(first), second);
                }
                return true;
            } catch (Refused r) {
                return false;
            }
        }

        long then(int what) {
            if (what >= 10) {
                return what - 10 < goers.size() ? goers.get(what - 10).field : -9;
            }
            int set = 0;
            if (what == 2) {
                for (int p = 0; p < fields; p++) {
                    for (int q = p + 1; q < fields; q++) {
                        set += worn[p][q] ? 1 << hedge(p, q) : 0;
                    }
                }
                return set;
            }
            for (Plain p : goers) {
                set |= 1 << p.field;
            }
            return what == 0 ? open() : what == 3 ? went : set;
        }

        // -- who comes where: by all rows of fields without one twice

        List<List<Integer>> rows(int from, int to) {
            List<List<Integer>> found = new ArrayList<>();
            lengthen(new ArrayList<>(List.of(from)), to, found);
            return found;
        }

        void lengthen(List<Integer> row, int to, List<List<Integer>> found) {
            int last = row.get(row.size() - 1);
            if (last == to) {
                found.add(new ArrayList<>(row));
                return;
            }
            for (int f = 0; f < fields; f++) {
                if (!row.contains(f) && hole[last][f] > 0) {
                    row.add(f);
                    lengthen(row, to, found);
                    row.remove(row.size() - 1);
                }
            }
        }

        int least(List<Integer> row) {
            int v = 9;
            for (int x = 1; x < row.size(); x++) {
                v = Math.min(v, hole[row.get(x - 1)][row.get(x)]);
            }
            return v;
        }

        int widest(int a, int b) {
            return rows(a, b).stream().mapToInt(this::least).max().orElse(0);
        }

        boolean comes(Plain p, int to) {
            return rows(p.field, to).stream().anyMatch(r -> r.size() == 1 || p.fits(least(r)));
        }

        long way(Plain p, int to, int x) {
            TreeSet<String> fitting = new TreeSet<>();
            for (List<Integer> r : rows(p.field, to)) {
                if (r.size() == 1 || p.fits(least(r))) {
                    fitting.add(r.size() + ":" + r);
                }
            }
            if (fitting.isEmpty()) {
                return -9;
            }
            String digits = fitting.first().replaceAll("^.:|[^0-9]", "");
            return x < 0 ? digits.length() : x < digits.length() ? digits.charAt(x) - '0' : -9;
        }

        long market(int what) {
            int[] sets = new int[fields];
            int best = 0;
            for (int f = fields - 1; f >= 0; f--) {
                for (int k = 0; k < goers.size(); k++) {
                    sets[f] += comes(goers.get(k), f) ? 1 << k : 0;
                }
                best = f == fields - 1 || Integer.bitCount(sets[f]) >= Integer.bitCount(sets[best]) ? f : best;
            }
            return what == 0 ? best : sets[best];
        }

        long widen(Plain p, int to) {
            int best = -9;
            for (List<Integer> r : rows(p.field, to)) {
                int tight = 0;
                for (int x = 1; x < r.size(); x++) {
                    tight += p.fits(hole[r.get(x - 1)][r.get(x)]) ? 0 : 1;
                }
                best = best < 0 ? tight : Math.min(best, tight);
            }
            return best;
        }

        long keep(Plain p, int to) {
            if (p.field == to) {
                return -9;
            }
            int best = -1;
            for (int set = 0; set < 1 << fields * (fields - 1) / 2; set++) {
                if ((best < 0 || Integer.bitCount(set) < Integer.bitCount(best)) && isKept(p, to, set)) {
                    best = set;
                }
            }
            return best;
        }

        boolean isKept(Plain p, int to, int set) {
            Model m = other();
            for (int a = 0; a < fields; a++) {
                for (int b = a + 1; b < fields; b++) {
                    if ((set >> hedge(a, b) & 1) == 1) {
                        m.set(a, b, 0);
                    }
                }
            }
            return !m.comes(p, to);
        }

        // -- who fitted

        boolean allSo() {
            return readings.stream().allMatch(r -> goers.get(r[0]).fits(hole[r[1]][r[2]]) == (r[3] == 1));
        }

        long girths(int k) {
            int set = 0;
            for (int g = 1; g <= 9; g++) {
                Model m = other();
                m.goers.get(k).girth = g;
                set += m.allSo() ? 1 << g : 0;
            }
            return set;
        }

        long kinds(int k) {
            int set = 0;
            for (int kind = 0; kind <= 2; kind++) {
                Model m = other();
                m.goers.set(k, born(m, kind, goers.get(k).girth, goers.get(k).field));
                set += m.allSo() ? 1 << kind : 0;
            }
            return set;
        }

        long holes(int a, int b) {
            int set = 0;
            for (int v = 0; v <= 9; v++) {
                Model m = other();
                m.set(a, b, v);
                set += m.allSo() ? 1 << v : 0;
            }
            return set;
        }

        long odds(Plain p, int to, int which) {
            int n = 0;
            for (int g = 1; g <= 9; g++) {
                n += comes(born(this, kind(p), g, p.field), to) ? 1 : 0;
            }
            int d = BigInteger.valueOf(n).gcd(BigInteger.valueOf(9)).intValue();
            return which == 0 ? n / d : 9 / d;
        }
    }
}
