/** For each promise of the document: ordinary inputs, the edges that it names, wrong inputs. */
public final class PromiseTest {
    private static final int UNKNOWN = -1, OUTSIDE = -2, STATE = -3, FULL = -4, NONE = -9;
    private static final int NULL = -11, CAST = -12, INDEX = -13, SIZE = -14;
    private static final long LOST = Long.MIN_VALUE;
    private static final int MIN = Integer.MIN_VALUE, MAX = Integer.MAX_VALUE;

    // Four fields, holes 01:4 02:0 03:7 12:0 13:3 23:6; a plain one, a thief, a child, a plain one.
    private static final String FOUR = "h4407036;g40;t82;c91;g63";

    private static int promise = 0;
    private static int row = 0;
    private static int wrong = 0;

    public static void main(String[] args) {
        newObject(); countyTexts(); countyFaults(); countyAnew(); ofGoer(); hole(); hoop(); fatten();
        go(); years(); stop(); seasonAnswers(); seasonWrongs(); seasonRefusals();
        widest(); way(); market(); widen(); keep();
        reading(); back(); girths(); kinds(); holes(); odds();
        sheet(); lose(); put(); cell(); copy(); tell(); hail(); as(); trace(); fault(); many();
        System.out.println(wrong == 0 ? "all promises hold" : wrong + " answers are not as due");
        if (wrong != 0) {
            System.exit(1);
        }
    }

    private static void promise(int number) {
        promise = number;
        row = 0;
    }

    private static void due(long got, long want) {
        row++;
        if (got != want) {
            wrong++;
            System.out.println("promise " + promise + ", row " + row + ": answered " + got + ", due is " + want);
        }
    }

    // ---- helpers

    private static void write(HedgeHoles x, int sheet, int lane, String text) {
        x.sheet(sheet, lane, text.length());
        for (int i = 0; i < text.length(); i++) {
            x.put(sheet, i, text.charAt(i));
        }
    }

    private static int told(HedgeHoles x, String text) {
        write(x, 0, 0, text);
        return x.county(0, 0, 0, text.length());
    }

    private static HedgeHoles of(String text) {
        HedgeHoles x = new HedgeHoles();
        if (told(x, text) < 1) {
            throw new IllegalArgumentException(text);
        }
        return x;
    }

    private static int seasonOf(HedgeHoles x, int what, int... cells) {
        x.sheet(1, 2, cells.length);
        for (int i = 0; i < cells.length; i++) {
            x.put(1, i, cells[i]);
        }
        return x.season(1, 2, 0, cells.length / 2, what);
    }

    /** Everything that can be seen of a county, in one text. */
    private static String seen(HedgeHoles x) {
        StringBuilder b = new StringBuilder();
        for (int w = 0; w < 5; w++) {
            b.append(x.many(w)).append(' ');
        }
        for (int k = 0; k < 5; k++) {
            for (int w = 0; w < 4; w++) {
                b.append(x.ofGoer(k, w)).append(' ');
            }
        }
        for (int p = 0; p < 25; p++) {
            b.append(x.hole(p / 5, p % 5, 0)).append(x.hole(p / 5, p % 5, 1)).append(' ');
        }
        return b.append(x.trace()).toString();
    }

    private static void same(String got, String want) {
        due(got.equals(want) ? 1 : 0, 1);
    }

    // ---- 1 the county

    private static void newObject() {
        promise(1);
        HedgeHoles x = new HedgeHoles();
        for (int what = 0; what < 5; what++) {
            due(x.many(what), 0);
        }
        due(x.ofGoer(0, 0), UNKNOWN);
        due(x.hole(0, 1, 0), UNKNOWN);
        due(x.trace(), 0);
        due(x.fault(), 0);
        for (int k = 0; k < 4; k++) {
            due(x.put(k, 0, 1), NULL);
            due(x.lose(k), 0);
        }
        due(x.lose(4), UNKNOWN);
    }

    private static void countyTexts() {
        promise(2);
        HedgeHoles x = new HedgeHoles();
        due(x.sheet(0, 0, 0), 1);
        due(x.county(0, 0, 0, 0), -100);
        String whole = "h50123456789;g10;t24;c93;g50;t01";
        due(told(new HedgeHoles(), whole), -100 - 30);
        whole = "h50123456789;g10;t24;c93;g50;t11";
        due(told(new HedgeHoles(), whole), 5);
        for (int n = 0; n < whole.length(); n++) {
            boolean ends = n >= 16 && n % 4 == 0;
            due(told(new HedgeHoles(), whole.substring(0, n)), ends ? (n - 12) / 4 : -100 - n);
        }
        String[] wrongs = {"H", "x", "h1", "h6", "h2:", "h2x", "h25g", "h25;x", "h25;h", "h25;g0", "h25;g:", "h25;g32",
            "h25;g3/", "h25;g31g", "h25;g310", "h3123;g13", "h4123456;c14", whole + ";", whole + "x"};
        for (String w : wrongs) {
            due(told(new HedgeHoles(), w), -100 - (w.length() - 1));
            due(told(new HedgeHoles(), w + ";g10"), -100 - (w.length() - 1));
        }
        due(told(new HedgeHoles(), "h20;g11"), 1);
        due(told(new HedgeHoles(), "h29;c90;t10"), 2);
        due(told(new HedgeHoles(), "h3000;g12"), 1);
        due(told(new HedgeHoles(), "h4000000;g13"), 1);
        due(told(new HedgeHoles(), "h50000000000;g14"), 1);
    }

    private static void countyFaults() {
        promise(2);
        HedgeHoles x = new HedgeHoles();
        due(x.county(-1, 9, 0, -1), UNKNOWN);
        due(x.county(4, 0, 0, 0), UNKNOWN);
        due(x.county(0, -1, 0, -1), OUTSIDE);
        due(x.county(0, 3, 0, 0), OUTSIDE);
        due(x.fault(), 0);
        due(x.county(0, 1, -1, -1), NULL);
        due(x.fault(), 1);
        write(x, 0, 1, "..h25;g31..");
        due(x.county(0, 0, -1, -1), CAST);
        due(x.county(0, 2, 2, 7), CAST);
        due(x.fault(), 2);
        due(x.county(0, 1, -1, -1), SIZE);
        due(x.county(0, 1, 99, MIN), SIZE);
        due(x.fault(), 4);
        due(x.county(0, 1, -1, 0), INDEX);
        due(x.county(0, 1, 12, 0), INDEX);
        due(x.county(0, 1, 11, 1), INDEX);
        due(x.county(0, 1, 2, 10), INDEX);
        due(x.county(0, 1, 2, MAX), INDEX);
        due(x.county(0, 1, MAX, MAX), INDEX);
        due(x.fault(), 3);
        due(x.county(0, 1, 11, 0), -100);
        due(x.fault(), 0);
        due(x.county(0, 1, 2, 8), -107);
        due(x.fault(), 0);
        due(x.many(0), 0);
        due(x.county(0, 1, 2, 7), 1);
        due(x.many(0), 2);
        // A code that only looks like one when it is cut to a byte is none.
        write(x, 1, 2, "h25;g31");
        x.put(1, 0, 'h' + 256);
        due(x.county(1, 2, 0, 7), -100);
        write(x, 1, 0, "h25;g31");
        x.put(1, 0, 'h' + 256);
        due(x.county(1, 0, 0, 7), 1);
    }

    private static void countyAnew() {
        promise(2);
        HedgeHoles x = of(FOUR);
        x.go(0, 1);
        x.years(2);
        x.go(0, 0);
        x.reading(0, 0, 1, 1);
        x.tell(0);
        String was = seen(x);
        due(told(x, "h4407036;g40;t82;c91;g64"), -123);
        same(seen(x), was);
        due(x.county(0, 1, 0, 24), CAST);
        same(seen(x), was);
        due(told(x, FOUR), 4);
        due(x.many(2), 0);
        due(x.many(3), 0);
        due(x.many(4), 0);
        due(x.hole(0, 1, 0), 4);
        due(x.hole(0, 1, 1), 0);
        due(x.trace(), 1);
        due(x.cell(0, 0, 0), 'h');
        due(told(x, "h25;t41"), 1);
        due(x.many(0), 2);
        due(x.many(1), 1);
        due(x.ofGoer(1, 0), UNKNOWN);
        due(x.hole(0, 2, 0), UNKNOWN);
        // What a season has worn, and what was in a greater county, leaves nothing behind.
        told(x, "h59999999999;g10;g10;g14");
        due(seasonOf(x, 2, 0, 1), 1);
        due(told(x, "h29;g10"), 1);
        due(x.hole(0, 1, 1), 0);
        due(seasonOf(x, 0), 1);
        due(seasonOf(x, 1, 1, 20), 0);
        due(seasonOf(x, 1, 0, 2), 0);
        due(seasonOf(x, 4), 1);
        due(x.years(1), 1);
    }

    private static void ofGoer() {
        promise(3);
        HedgeHoles x = of(FOUR);
        int[][] want = {{0, 4, 4, 0}, {1, 8, 7, 2}, {2, 9, 4, 1}, {0, 6, 6, 3}};
        for (int k = 0; k < 4; k++) {
            for (int what = 0; what < 4; what++) {
                due(x.ofGoer(k, what), want[k][what]);
            }
            due(x.ofGoer(k, -1), OUTSIDE);
            due(x.ofGoer(k, 4), OUTSIDE);
        }
        due(x.ofGoer(-1, 0), UNKNOWN);
        due(x.ofGoer(4, 9), UNKNOWN);
        due(x.ofGoer(MIN, 0), UNKNOWN);
        due(x.ofGoer(MAX, 0), UNKNOWN);
        HedgeHoles y = of("h25;t10;c10;g10;c20;c80");
        int[] thick = {0, 0, 1, 1, 4};
        for (int k = 0; k < 5; k++) {
            due(y.ofGoer(k, 2), thick[k]);
        }
    }

    private static void hole() {
        promise(4);
        HedgeHoles x = of("h51234567890;g10");
        int[][] want = {{-1, 1, 2, 3, 4}, {1, -1, 5, 6, 7}, {2, 5, -1, 8, 9}, {3, 6, 8, -1, 0}, {4, 7, 9, 0, -1}};
        int[][] hedge = {{-1, 0, 1, 2, 3}, {0, -1, 4, 5, 6}, {1, 4, -1, 7, 8}, {2, 5, 7, -1, 9}, {3, 6, 8, 9, -1}};
        for (int a = 0; a < 5; a++) {
            for (int b = 0; b < 5; b++) {
                due(x.hole(a, b, 0), want[a][b]);
                due(x.hole(a, b, 1), a == b ? UNKNOWN : 0);
                due(x.hole(a, b, 2), hedge[a][b]);
                due(x.hole(a, b, 3), a == b ? UNKNOWN : OUTSIDE);
            }
        }
        due(x.hole(0, 1, -1), OUTSIDE);
        due(x.hole(5, 0, 7), UNKNOWN);
        due(x.hole(0, 5, 0), UNKNOWN);
        due(x.hole(-1, 0, 0), UNKNOWN);
        due(x.hole(0, -1, 0), UNKNOWN);
        due(x.hole(7, 7, 0), UNKNOWN);
        x.go(0, 2);
        due(x.hole(0, 2, 1), 1);
        due(x.hole(2, 0, 1), 1);
        due(x.hole(0, 1, 1), 0);
    }

    private static void hoop() {
        promise(5);
        HedgeHoles x = of(FOUR);
        due(x.hoop(1, 0, 9), 4);
        due(x.hole(0, 1, 0), 9);
        due(x.hoop(0, 1, 0), 9);
        due(x.hoop(0, 1, 5), 0);
        due(x.go(0, 1), 1);
        due(x.hole(0, 1, 1), 1);
        due(x.hoop(0, 1, 10), OUTSIDE);
        due(x.hoop(0, 1, -1), OUTSIDE);
        due(x.hole(0, 1, 1), 1);
        due(x.hoop(0, 1, 5), 5);
        due(x.hole(0, 1, 1), 0);
        due(x.hoop(0, 0, 5), UNKNOWN);
        due(x.hoop(0, 4, 99), UNKNOWN);
        due(x.hoop(-1, 0, 5), UNKNOWN);
        // Only that hole loses its wear.
        due(x.go(2, 0), 1);
        due(x.go(2, 3), 3);
        due(x.hoop(0, 1, 3), 5);
        due(x.hole(0, 3, 1), 1);
    }

    private static void fatten() {
        promise(6);
        HedgeHoles x = of(FOUR);
        due(x.fatten(1, 9), 8);
        due(x.fatten(1, 1), 9);
        due(x.ofGoer(1, 1), 1);
        due(x.ofGoer(1, 2), 0);
        due(x.fatten(1, 0), OUTSIDE);
        due(x.fatten(1, 10), OUTSIDE);
        due(x.fatten(4, 0), UNKNOWN);
        due(x.fatten(-1, 5), UNKNOWN);
        due(x.ofGoer(1, 1), 1);
        due(x.ofGoer(0, 1), 4);
    }

    // ---- 2 goings

    private static void go() {
        promise(7);
        HedgeHoles x = of(FOUR);
        due(x.go(0, 3), 3);
        due(x.ofGoer(0, 3), 3);
        due(x.hole(0, 3, 1), 1);
        due(x.hole(0, 3, 0), 7);
        due(x.many(3), 1);
        String was = seen(x);
        due(x.go(0, 3), STATE);
        due(x.go(0, 1), STATE);
        due(x.go(1, 3), STATE);
        due(x.go(1, 0), STATE);
        due(x.go(4, 9), UNKNOWN);
        due(x.go(-1, 0), UNKNOWN);
        due(x.go(0, 4), UNKNOWN);
        due(x.go(0, -1), UNKNOWN);
        same(seen(x), was);
        due(x.go(2, 0), 0);
        due(x.go(2, 3), 3);
        due(x.many(3), 3);
        // Thick as nothing, he still needs a hole.
        HedgeHoles y = of("h3010;t10;c10");
        due(y.go(0, 1), STATE);
        due(y.go(0, 2), 1);
        due(y.go(1, 1), STATE);
        due(y.go(1, 2), 1);
    }

    private static void years() {
        promise(8);
        HedgeHoles x = new HedgeHoles();
        due(x.years(0), OUTSIDE);
        due(x.years(1), STATE);
        told(x, FOUR);
        due(x.years(0), OUTSIDE);
        due(x.years(61), OUTSIDE);
        due(x.years(-1), OUTSIDE);
        due(x.go(0, 1), 0);
        due(x.years(1), 4);
        int[] one = {5, 0, 6, 0, 2, 5};
        widths(x, one);
        due(x.hole(0, 1, 1), 0);
        due(x.many(2), 1);
        due(x.years(2), 3);
        int[] three = {3, 0, 4, 0, 0, 3};
        widths(x, three);
        due(x.years(60), 0);
        due(x.many(2), 63);
        due(x.years(1), 0);
        due(x.hole(0, 1, 0), 0);
        // A worn hole of 9 stays 9; over two years it is worn for the first alone.
        HedgeHoles y = of("h29;g90");
        due(y.go(0, 1), 0);
        due(y.years(1), 1);
        due(y.hole(0, 1, 0), 9);
        due(y.years(1), 1);
        due(y.hole(0, 1, 0), 8);
        HedgeHoles z = of("h25;g10");
        due(z.go(0, 1), 4);
        due(z.years(2), 1);
        due(z.hole(0, 1, 0), 5);
        due(of("h51234567892;g10").years(1), 9);
    }

    private static void widths(HedgeHoles x, int[] want) {
        int h = 0;
        for (int a = 0; a < x.many(0); a++) {
            for (int b = a + 1; b < x.many(0); b++) {
                due(x.hole(a, b, 0), want[h++]);
            }
        }
    }

    private static void stop() {
        promise(9);
        HedgeHoles x = of(FOUR);
        due(x.stop(3, 1), 3);
        due(x.hole(1, 3, 0), 9);
        due(x.hole(1, 3, 1), 0);
        due(x.stop(1, 3), 9);
        due(x.stop(0, 2), STATE);
        due(x.hole(0, 2, 0), 0);
        due(x.stop(0, 0), UNKNOWN);
        due(x.stop(0, 4), UNKNOWN);
        due(x.stop(-1, 0), UNKNOWN);
        // Stopping up does not undo the wear.
        due(x.go(0, 3), 3);
        due(x.stop(0, 3), 7);
        due(x.hole(0, 3, 1), 1);
        due(x.years(1), 4);
        due(x.hole(0, 3, 0), 9);
        due(x.hole(1, 3, 0), 8);
    }

    private static void seasonAnswers() {
        promise(10);
        HedgeHoles x = of(FOUR);
        String was = seen(x);
        int[] acts = {0, 3, 4, 10, 0, 0, 2, 20, 1, 10, 0, 3};
        int[] wants = {2, NONE, 4, 3, 14};
        for (int what = 0; what < 5; what++) {
            due(seasonOf(x, what, acts), wants[what]);
        }
        int[] places = {3, 2, 1, 3, NONE};
        for (int k = 0; k < 5; k++) {
            due(seasonOf(x, 10 + k, acts), places[k]);
        }
        same(seen(x), was);
        due(seasonOf(x, 0), 4);
        due(seasonOf(x, 1), NONE);
        due(seasonOf(x, 1, 0, 10), NONE);
        due(seasonOf(x, 0, 0, 10), 4);
        due(seasonOf(x, 0, 9, 10), 0);
        due(seasonOf(x, 2, 0, 3, 0, 10), 4);
        due(seasonOf(x, 2, 0, 3, 1, 10), 0);
        due(seasonOf(x, 1, 0, 3, 8, 10, 0, 0), 2);
        // From how all is now, wear and place too.
        due(x.go(0, 3), 3);
        due(seasonOf(x, 2), 4);
        due(seasonOf(x, 10), 3);
        due(seasonOf(x, 0, 3, 10, 3, 10), 1);
        due(seasonOf(x, 1, 0, 3), 0);
        // Cells from i on, of each lane.
        for (int lane = 0; lane < 3; lane++) {
            x.sheet(2, lane, 5);
            x.put(2, 3, 0);
            x.put(2, 4, 1);
            x.put(2, 1, 2);
            x.put(2, 2, 0);
            due(x.season(2, lane, 1, 2, 1), 1);
            due(x.season(2, lane, 1, 1, 3), 1);
            due(x.season(2, lane, 5, 0, 1), NONE);
            due(x.season(2, lane, 2, 2, 1), INDEX);
        }
    }

    private static void seasonWrongs() {
        promise(10);
        HedgeHoles x = of(FOUR);
        due(seasonOf(x, 1, 0, 0), 0);
        due(seasonOf(x, 1, 0, 2), 0);
        due(seasonOf(x, 1, 0, 4), 0);
        due(seasonOf(x, 1, 1, 3), 0);
        due(seasonOf(x, 1, 1, 20), 0);
        due(seasonOf(x, 1, 6, 20), 0);
        due(seasonOf(x, 1, 5, 20), NONE);
        due(seasonOf(x, 1, 5, 20, 1, 3), NONE);
        due(seasonOf(x, 1, 0, 3, 9, 20), 1);
        for (int what : new int[] {0, 2, 3, 4, 10, 14}) {
            due(seasonOf(x, what, 0, 3, 0, 3, 9, 20), -101);
            due(seasonOf(x, what, 1, 4), -100);
        }
        HedgeHoles y = of("h51111111111;g10");
        due(seasonOf(y, 1, 9, 20, 0, 4), NONE);
        int[] most = new int[40];
        for (int p = 0; p < 20; p++) {
            most[2 * p + 1] = p % 2 == 0 ? 4 : 0;
        }
        due(seasonOf(y, 3, most), 20);
        most[38] = 0;
        most[39] = 4;
        due(seasonOf(y, 1, most), 19);
        due(seasonOf(y, 0, most), -119);
    }

    private static void seasonRefusals() {
        promise(10);
        HedgeHoles x = new HedgeHoles();
        due(x.season(0, 0, 0, 0, 0), NULL);
        x.sheet(0, 0, 2);
        due(x.season(0, 0, 0, 1, 0), STATE);
        due(x.season(0, 0, 1, 1, 0), INDEX);
        due(x.season(0, 1, 1, 1, 0), CAST);
        due(x.fault(), 2);
        due(x.season(0, 0, 0, 1, 0), STATE);
        due(x.fault(), 0);
        told(x, FOUR);
        x.sheet(0, 0, 42);
        due(x.season(4, 9, 9, 99, 9), UNKNOWN);
        due(x.season(-1, 0, 0, 0, 0), UNKNOWN);
        due(x.season(0, 3, 0, 0, 0), OUTSIDE);
        due(x.season(0, -1, 0, 0, 0), OUTSIDE);
        due(x.season(0, 0, 0, -1, 0), OUTSIDE);
        due(x.season(0, 0, 0, 21, 0), OUTSIDE);
        for (int what : new int[] {-1, 5, 9, 15, MIN, MAX}) {
            due(x.season(1, 0, 0, 0, what), OUTSIDE);
        }
        due(x.season(0, 0, -1, 0, 0), INDEX);
        due(x.season(0, 0, 43, 0, 0), INDEX);
        due(x.season(0, 0, 42, 0, 0), 4);
        due(x.season(0, 0, 3, 20, 1), INDEX);
        due(x.season(0, 0, 2, 20, 1), 0);
        due(x.season(0, 0, MAX, 20, 1), INDEX);
        for (int second : new int[] {-1, 5, 9, 11, 19, 21, MIN, MAX}) {
            due(seasonOf(x, 1, 0, second), OUTSIDE);
            due(seasonOf(x, 1, 77, second), OUTSIDE);
        }
        for (int first : new int[] {-1, 10, MIN, MAX}) {
            due(seasonOf(x, 1, first, 10), OUTSIDE);
            due(seasonOf(x, 1, first, 20), OUTSIDE);
            due(seasonOf(x, 1, first, 0), UNKNOWN);
        }
        due(seasonOf(x, 1, 4, 0), UNKNOWN);
        due(seasonOf(x, 1, 4, 4), UNKNOWN);
        // Pair by pair: the first that is refused counts; one is refused though an act ahead of it can't be.
        due(seasonOf(x, 1, 4, 0, 0, 5), UNKNOWN);
        due(seasonOf(x, 1, 0, 5, 4, 0), OUTSIDE);
        due(seasonOf(x, 0, 0, 0, 0, 5), OUTSIDE);
        due(seasonOf(x, 1, 0, 0, 4, 1), UNKNOWN);
        due(x.fault(), 0);
    }

    // ---- 3 who comes where

    private static void widest() {
        promise(11);
        HedgeHoles x = of(FOUR);
        int[][] want = {{-1, 4, 6, 7}, {4, -1, 4, 4}, {6, 4, -1, 6}, {7, 4, 6, -1}};
        for (int a = 0; a < 4; a++) {
            for (int b = 0; b < 4; b++) {
                due(x.widest(a, b), want[a][b]);
            }
            due(x.widest(a, 4), UNKNOWN);
            due(x.widest(-1, a), UNKNOWN);
        }
        HedgeHoles y = of("h59000900090;g10");
        due(y.widest(0, 4), 9);
        due(y.widest(3, 2), 0);
        due(y.widest(0, 2), 9);
        HedgeHoles z = of("h51000900801;g10");
        due(z.widest(0, 4), 1);
        due(z.widest(1, 3), 8);
        due(z.widest(4, 0), 1);
    }

    private static void way() {
        promise(12);
        HedgeHoles x = of(FOUR);
        due(x.way(2, 2, -1), 4);
        int[] want = {1, 0, 3, 2, NONE};
        for (int at = 0; at < 5; at++) {
            due(x.way(2, 2, at), want[at]);
        }
        due(x.way(0, 0, -1), 1);
        due(x.way(0, 0, 0), 0);
        due(x.way(0, 0, 1), NONE);
        due(x.way(1, 0, -1), NONE);
        due(x.way(1, 0, 0), NONE);
        due(x.way(0, 0, -2), OUTSIDE);
        due(x.way(0, 0, 5), OUTSIDE);
        due(x.way(1, 0, 5), OUTSIDE);
        due(x.way(4, 0, 9), UNKNOWN);
        due(x.way(0, 4, 9), UNKNOWN);
        due(x.way(-1, 0, 0), UNKNOWN);
        due(x.way(0, -1, 0), UNKNOWN);
        // Of several of the same length the first row: 0 1 4 ahead of 0 2 4 and 0 3 4; 4 1 0 back.
        HedgeHoles y = of("h59990009090;g50;g54;g53");
        y.hoop(3, 4, 9);
        due(y.way(0, 4, -1), 3);
        due(y.way(0, 4, 1), 1);
        due(y.way(1, 0, 1), 1);
        y.hoop(1, 4, 4);
        due(y.way(0, 4, 1), 2);
        due(y.way(0, 4, 2), 4);
        // A row of five fields.
        HedgeHoles z = of("h50050305005;c92");
        due(z.way(0, 0, -1), NONE);
        z.hoop(1, 2, 5);
        due(z.way(0, 0, -1), 5);
        int[] five = {2, 1, 4, 3, 0};
        for (int at = 0; at < 5; at++) {
            due(z.way(0, 0, at), five[at]);
        }
    }

    private static void market() {
        promise(13);
        HedgeHoles x = new HedgeHoles();
        due(x.market(2), OUTSIDE);
        due(x.market(0), STATE);
        told(x, FOUR);
        due(x.market(-1), OUTSIDE);
        due(x.market(2), OUTSIDE);
        // Goers 0 and 2 come all over, 3 to 0 2 3, 1 only stays in 2.
        due(x.market(0), 2);
        due(x.market(1), 15);
        x.fatten(3, 8);
        due(x.market(0), 2);
        due(x.market(1), 7);
        due(x.go(0, 3), 3);
        x.hoop(2, 3, 1);
        due(x.market(0), 3);
        due(x.market(1), 13);
        HedgeHoles y = of("h3000;g10;g11;g12");
        due(y.market(0), 0);
        due(y.market(1), 1);
        HedgeHoles z = of("h3000;g12;g11;g12");
        due(z.market(0), 2);
        due(z.market(1), 5);
        HedgeHoles w = of("h3000;g11;g12;g11");
        due(w.market(0), 1);
        due(w.market(1), 5);
    }

    private static void widen() {
        promise(14);
        HedgeHoles x = of(FOUR);
        int[][] want = {{0, 0, 0, 0}, {1, 2, 0, 1}, {0, 0, 0, 0}, {0, 1, 0, 0}};
        for (int k = 0; k < 4; k++) {
            for (int field = 0; field < 4; field++) {
                due(x.widen(k, field), want[k][field]);
            }
        }
        due(x.widen(4, 0), UNKNOWN);
        due(x.widen(-1, 0), UNKNOWN);
        due(x.widen(0, 4), UNKNOWN);
        due(x.widen(0, -1), UNKNOWN);
        HedgeHoles y = of("h3100;g90;g91;g92");
        due(y.widen(0, 1), 1);
        due(y.widen(0, 2), NONE);
        due(y.widen(2, 2), 0);
        due(y.widen(2, 0), NONE);
        // A long way that he fits is better than a short one that he does not.
        HedgeHoles z = of("h59001900909;g90");
        z.hoop(2, 3, 9);
        z.hoop(3, 4, 9);
        due(z.widen(0, 4), 0);
        z.hoop(2, 3, 8);
        z.hoop(1, 3, 0);
        due(z.widen(0, 4), 1);
        z.hoop(0, 4, 0);
        due(z.widen(0, 4), 1);
        z.hoop(1, 2, 8);
        due(z.widen(0, 4), 2);
    }

    private static void keep() {
        promise(15);
        HedgeHoles x = of(FOUR);
        due(x.keep(0, 0), NONE);
        due(x.keep(0, 1), 1);
        due(x.keep(0, 2), 4);
        due(x.keep(1, 0), 0);
        due(x.keep(2, 2), 1);
        due(x.keep(4, 0), UNKNOWN);
        due(x.keep(-1, 0), UNKNOWN);
        due(x.keep(0, 4), UNKNOWN);
        due(x.keep(0, -1), UNKNOWN);
        // All open: all about his own field or about the other; the least set.
        HedgeHoles y = of("h59999999999;g90;g94");
        due(y.keep(0, 4), 15);
        due(y.keep(1, 0), 15);
        due(y.keep(1, 3), 0b10_1010_0100);
        due(of("h3999;g92").keep(0, 0), 3);
        // Fewest counts ahead of least: hedge 9 alone, not 0 to 3.
        HedgeHoles z = of("h59990990009;g90");
        due(z.keep(0, 4), 512);
        // Holes that he does not fit need not be shut.
        z.fatten(0, 5);
        z.hoop(0, 4, 4);
        due(z.keep(0, 4), 512);
        z.hoop(0, 4, 5);
        due(z.keep(0, 4), 512 + 8);
        // Of hedges 7 (2 and 3) and 9 (3 and 4) either would do: 7 is neither about his field nor the other.
        HedgeHoles w = of("h59900900909;g90");
        due(w.keep(0, 4), 128);
        w.hoop(2, 4, 9);
        due(w.keep(0, 4), 3);
        w.hoop(0, 1, 8);
        due(w.keep(0, 4), 2);
    }

    // ---- 4 who fitted

    private static void reading() {
        promise(16);
        HedgeHoles x = of(FOUR);
        for (int r = 0; r < 8; r++) {
            due(x.many(4), r);
            due(x.reading(r % 4, 0, 1, r % 2), r);
        }
        due(x.reading(0, 0, 1, 1), FULL);
        due(x.many(4), 8);
        due(x.reading(0, 0, 1, 2), OUTSIDE);
        due(x.reading(0, 0, 1, -1), OUTSIDE);
        due(x.reading(0, 1, 1, 2), UNKNOWN);
        due(x.reading(4, 0, 1, 0), UNKNOWN);
        due(x.reading(-1, 0, 1, 0), UNKNOWN);
        due(x.reading(0, 4, 1, 0), UNKNOWN);
        due(x.reading(0, 0, -1, 0), UNKNOWN);
        due(x.back(1), 7);
        due(x.reading(3, 3, 2, 0), 7);
    }

    private static void back() {
        promise(17);
        HedgeHoles x = new HedgeHoles();
        due(x.back(0), 0);
        due(x.back(1), OUTSIDE);
        told(x, FOUR);
        x.reading(0, 0, 1, 1);
        x.reading(0, 0, 1, 0);
        x.reading(0, 0, 2, 1);
        due(x.back(4), OUTSIDE);
        due(x.back(-1), OUTSIDE);
        due(x.back(MIN), OUTSIDE);
        due(x.back(0), 3);
        due(x.girths(0), 0);
        due(x.back(2), 1);
        due(x.girths(0), 30);
        due(x.back(1), 0);
        due(x.girths(0), 1022);
        due(x.many(4), 0);
    }

    private static void girths() {
        promise(18);
        HedgeHoles x = of(FOUR);
        due(x.girths(-1), UNKNOWN);
        due(x.girths(4), UNKNOWN);
        due(x.girths(3), 1022);
        due(x.reading(2, 1, 3, 1), 0);
        due(x.girths(2), 0b0011111110);
        due(x.girths(0), 0);
        x.fatten(2, 7);
        due(x.girths(0), 1022);
        due(x.reading(2, 0, 1, 0), 1);
        due(x.girths(2), 0);
        due(x.back(2), 0);
        due(x.reading(1, 3, 1, 1), 0);
        due(x.reading(1, 3, 0, 1), 1);
        due(x.girths(1), 0b0000011110);
        due(x.reading(1, 0, 2, 1), 2);
        due(x.girths(1), 0);
        due(x.ofGoer(1, 1), 8);
        due(x.ofGoer(2, 1), 7);
    }

    private static void kinds() {
        promise(19);
        HedgeHoles x = of(FOUR);
        due(x.kinds(-1), UNKNOWN);
        due(x.kinds(4), UNKNOWN);
        due(x.kinds(1), 7);
        x.fatten(1, 7);
        due(x.reading(1, 2, 3, 1), 0);
        due(x.kinds(1), 6);
        due(x.reading(1, 1, 3, 0), 1);
        due(x.kinds(1), 2);
        due(x.kinds(0), 7);
        x.hoop(1, 3, 9);
        due(x.kinds(0), 0);
        due(x.kinds(1), 0);
        x.hoop(1, 3, 2);
        due(x.kinds(1), 6);
        due(x.ofGoer(1, 0), 1);
    }

    private static void holes() {
        promise(20);
        HedgeHoles x = of(FOUR);
        due(x.holes(0, 1), 1023);
        due(x.holes(0, 0), UNKNOWN);
        due(x.holes(4, 0), UNKNOWN);
        due(x.holes(0, -1), UNKNOWN);
        due(x.reading(0, 1, 0, 1), 0);
        due(x.holes(0, 1), 0b1111110000);
        due(x.holes(1, 0), 0b1111110000);
        due(x.reading(1, 0, 1, 0), 1);
        due(x.holes(0, 1), 0b0001110000);
        due(x.holes(2, 3), 1023);
        x.hoop(0, 1, 9);
        due(x.holes(2, 3), 0);
        due(x.holes(0, 1), 0b0001110000);
        due(x.hole(0, 1, 0), 9);
        // One who is thick as nothing fits every hole there is, but not none.
        HedgeHoles y = of("h20;t10");
        due(y.reading(0, 0, 1, 1), 0);
        due(y.holes(0, 1), 1022);
        due(y.reading(0, 0, 1, 0), 1);
        due(y.holes(0, 1), 0);
        due(y.back(2), 0);
        due(y.reading(0, 0, 1, 0), 0);
        due(y.holes(0, 1), 1);
    }

    private static void odds() {
        promise(21);
        HedgeHoles x = of(FOUR);
        long[][] upper = {{1, 4, 2, 7}, {7, 5, 1, 7}, {1, 1, 1, 1}};
        long[][] lower = {{1, 9, 3, 9}, {9, 9, 1, 9}, {1, 1, 1, 1}};
        for (int k = 0; k < 3; k++) {
            for (int field = 0; field < 4; field++) {
                due(x.odds(k, field, 0), upper[k][field]);
                due(x.odds(k, field, 1), lower[k][field]);
            }
        }
        due(x.odds(-1, 0, 0), LOST);
        due(x.odds(4, 0, 0), LOST);
        due(x.odds(0, 4, 0), LOST);
        due(x.odds(0, -1, 0), LOST);
        due(x.odds(0, 0, -1), LOST);
        due(x.odds(0, 0, 2), LOST);
        HedgeHoles y = of("h3030;g50;c31");
        due(y.odds(0, 1, 0), 0);
        due(y.odds(0, 1, 1), 1);
        due(y.odds(0, 2, 0), 1);
        due(y.odds(0, 2, 1), 3);
        due(y.ofGoer(0, 1), 5);
        // Readings have no part in it.
        due(y.reading(0, 0, 2, 1), 0);
        due(y.odds(0, 2, 0), 1);
        due(y.odds(0, 2, 1), 3);
    }

    // ---- 5 sheets, parts

    private static void sheet() {
        promise(22);
        HedgeHoles x = new HedgeHoles();
        due(x.sheet(0, 0, 60), 1);
        due(x.put(0, 59, 7), 1);
        due(x.cell(0, 59, 0), 7);
        due(x.sheet(0, 0, 61), OUTSIDE);
        due(x.sheet(0, 3, -1), OUTSIDE);
        due(x.sheet(0, -1, 0), OUTSIDE);
        due(x.sheet(4, 3, -1), UNKNOWN);
        due(x.sheet(-1, 0, 0), UNKNOWN);
        due(x.sheet(0, 1, -1), SIZE);
        due(x.sheet(0, 1, MIN), SIZE);
        due(x.cell(0, 59, 0), 7);
        due(x.sheet(0, 2, 60), 1);
        due(x.cell(0, 59, 2), 0);
        due(x.cell(0, 59, 0), LOST);
        due(x.sheet(0, 2, 0), 1);
        due(x.cell(0, 0, 2), LOST);
        due(x.fault(), 3);
        due(x.sheet(3, 1, 1), 1);
        due(x.lose(3), 1);
    }

    private static void lose() {
        promise(23);
        HedgeHoles x = new HedgeHoles();
        due(x.lose(2), 0);
        x.sheet(2, 1, 0);
        due(x.lose(2), 1);
        due(x.lose(2), 0);
        due(x.put(2, 0, 0), NULL);
        due(x.lose(-1), UNKNOWN);
        due(x.lose(4), UNKNOWN);
        // It names no faults, so it leaves fault() alone.
        due(x.fault(), 1);
        x.sheet(2, 0, 3);
        x.put(2, 2, 9);
        x.lose(2);
        x.sheet(2, 0, 3);
        due(x.cell(2, 2, 0), 0);
    }

    private static void put() {
        promise(24);
        HedgeHoles x = new HedgeHoles();
        due(x.put(4, 0, 0), UNKNOWN);
        due(x.put(-1, 0, 0), UNKNOWN);
        due(x.put(0, -1, 0), NULL);
        int[] values = {127, 128, 255, 256, -128, -129, 32767, 32768, 65535, 65536, -32769, MAX, MIN, -1};
        for (int lane = 0; lane < 3; lane++) {
            x.sheet(lane, lane, 2);
            for (int v : values) {
                due(x.put(lane, 1, v), 1);
                due(x.cell(lane, 1, lane), lane == 0 ? (byte) v : lane == 1 ? (short) v : v);
            }
            due(x.cell(lane, 0, lane), 0);
            due(x.put(lane, 2, 5), INDEX);
            due(x.put(lane, -1, 5), INDEX);
            due(x.put(lane, MAX, 5), INDEX);
            due(x.put(lane, MIN, 5), INDEX);
        }
        x.sheet(0, 0, 0);
        due(x.put(0, 0, 0), INDEX);
    }

    private static void cell() {
        promise(25);
        HedgeHoles x = new HedgeHoles();
        x.sheet(0, 1, 3);
        x.put(0, 2, -5);
        due(x.cell(0, 2, 1), -5);
        due(x.fault(), 0);
        due(x.cell(0, 9, 0), LOST);
        due(x.fault(), 2);
        due(x.cell(0, 3, 1), LOST);
        due(x.fault(), 3);
        due(x.cell(0, -1, 1), LOST);
        due(x.fault(), 3);
        due(x.cell(1, -1, 1), LOST);
        due(x.fault(), 1);
        due(x.cell(1, -1, 3), LOST);
        due(x.fault(), 0);
        x.put(1, 0, 0);
        due(x.cell(0, 0, -1), LOST);
        due(x.fault(), 0);
        x.put(1, 0, 0);
        due(x.cell(4, 0, 0), LOST);
        due(x.fault(), 0);
        due(x.cell(-1, 0, 0), LOST);
    }

    private static void copy() {
        promise(26);
        HedgeHoles x = new HedgeHoles();
        write(x, 0, 2, "abcdef");
        write(x, 1, 2, "uvwxyz");
        due(x.copy(0, 1, 1, 3, 3), 3);
        text(x, 1, 2, "uvwbcd");
        text(x, 0, 2, "abcdef");
        due(x.copy(0, 0, 0, 2, 4), 4);
        text(x, 0, 2, "ababcd");
        due(x.copy(0, 2, 0, 0, 4), 4);
        text(x, 0, 2, "abcdcd");
        due(x.copy(0, 6, 1, 6, 0), 0);
        due(x.copy(0, 0, 0, 0, 6), 6);
        int[][] beyond = {{-1, 0, 1}, {0, -1, 1}, {0, 0, -1}, {0, 0, 7}, {7, 0, 0}, {0, 7, 0}, {5, 0, 2}, {0, 5, 2},
            {MAX, 0, MAX}, {0, MAX, MAX}, {MIN, 0, 0}, {0, 0, MIN}, {6, 0, 1}, {0, 6, 1}, {1, 0, MAX}};
        for (int[] b : beyond) {
            due(x.copy(0, b[0], 1, b[1], b[2]), INDEX);
            due(x.fault(), 3);
        }
        text(x, 0, 2, "abcdcd");
        text(x, 1, 2, "uvwbcd");
        write(x, 2, 1, "st");
        due(x.copy(0, -1, 2, 0, 1), CAST);
        due(x.copy(2, 0, 0, 0, 1), CAST);
        due(x.copy(3, -1, 2, 0, 1), NULL);
        due(x.copy(2, -1, 3, 0, 1), NULL);
        due(x.fault(), 1);
        due(x.copy(4, 0, 3, 0, 0), UNKNOWN);
        due(x.copy(3, 0, 4, 0, 0), UNKNOWN);
        due(x.copy(-1, 0, 0, 0, 0), UNKNOWN);
        due(x.fault(), 0);
        // A shorter and a longer row: what is beyond counts for each by itself.
        x.sheet(3, 1, 5);
        due(x.copy(3, 0, 2, 0, 3), INDEX);
        due(x.copy(2, 0, 3, 3, 2), 2);
        text(x, 3, 1, "\0\0\0st");
    }

    private static void text(HedgeHoles x, int sheet, int lane, String want) {
        for (int i = 0; i < want.length(); i++) {
            due(x.cell(sheet, i, lane), want.charAt(i));
        }
        due(x.cell(sheet, want.length(), lane), LOST);
    }

    private static void tell() {
        promise(27);
        HedgeHoles x = of(FOUR);
        due(x.tell(0), 4);
        due(x.trace(), 1);
        due(x.tell(1), 108);
        due(x.trace(), (1 * 31 + 2) * 31 + 1);
        HedgeHoles y = of(FOUR);
        due(y.tell(2), 118);
        due(y.trace(), ((3 * 31 + 2) * 31 + 1) * 31 + 1);
        y.fatten(2, 2);
        due(y.tell(2), 104);
        int was = y.trace();
        due(y.tell(4), UNKNOWN);
        due(y.tell(-1), UNKNOWN);
        due(y.trace(), was);
    }

    private static void hail() {
        promise(28);
        HedgeHoles x = of(FOUR);
        due(x.hail(1), 2);
        due(x.trace(), 4);
        due(x.hail(2), 90);
        due(x.trace(), 4 * 31 + 5);
        due(x.hail(3), 3);
        due(x.trace(), (4 * 31 + 5) * 31 + 4);
        due(x.go(3, 0), 1);
        due(x.hail(3), 0);
        int was = x.trace();
        due(x.hail(4), UNKNOWN);
        due(x.hail(-1), UNKNOWN);
        due(x.trace(), was);
    }

    private static void as() {
        promise(29);
        HedgeHoles x = of(FOUR);
        int[][] want = {{1, CAST, CAST}, {1, 1, CAST}, {1, 1, 1}};
        for (int k = 0; k < 3; k++) {
            for (int kind = 0; kind < 3; kind++) {
                due(x.as(k, kind), want[k][kind]);
                due(x.fault(), want[k][kind] == CAST ? 2 : 0);
            }
            due(x.as(k, -1), OUTSIDE);
            due(x.as(k, 3), OUTSIDE);
        }
        due(x.as(4, 9), UNKNOWN);
        due(x.as(-1, 0), UNKNOWN);
        due(x.trace(), 0);
    }

    private static void trace() {
        promise(30);
        HedgeHoles x = of(FOUR);
        due(x.trace(), 0);
        int want = 0;
        for (int n = 0; n < 40; n++) {
            due(x.hail(0), 0);
            want = want * 31 + 4;
            due(x.trace(), want);
            due(x.trace(), want);
        }
    }

    private static void fault() {
        promise(31);
        HedgeHoles x = new HedgeHoles();
        due(x.fault(), 0);
        // Each call that names faults clears the latest one, if it is answered or refused.
        told(x, FOUR);
        x.sheet(1, 2, 2);
        x.put(1, 1, 1);
        for (int call = 0; call < 14; call++) {
            due(x.put(2, 0, 0), NULL);
            due(x.fault(), 1);
            due(x.fault(), 1);
            clearing(x, call);
            due(x.fault(), 0);
        }
        // Others leave it.
        due(x.put(2, 0, 0), NULL);
        due(x.go(0, 1), 0);
        due(x.go(0, 9), UNKNOWN);
        due(x.many(9), OUTSIDE);
        due(x.years(0), OUTSIDE);
        due(x.lose(1), 1);
        due(x.lose(9), UNKNOWN);
        due(x.tell(9), UNKNOWN);
        due(x.odds(9, 0, 0), LOST);
        due(x.fault(), 1);
    }

    private static void clearing(HedgeHoles x, int call) {
        switch (call) {
            case 0: due(x.county(0, 0, 0, 24), 4); break;
            case 1: due(x.county(9, 0, 0, 24), UNKNOWN); break;
            case 2: due(x.county(0, 0, 0, 1), -101); break;
            case 3: due(x.season(1, 2, 0, 1, 1), NONE); break;
            case 4: due(x.season(1, 2, 0, 1, 9), OUTSIDE); break;
            case 5: due(x.sheet(3, 0, 1), 1); break;
            case 6: due(x.sheet(3, 0, 61), OUTSIDE); break;
            case 7: due(x.put(3, 0, 1), 1); break;
            case 8: due(x.put(9, 0, 1), UNKNOWN); break;
            case 9: due(x.cell(3, 0, 0), 1); break;
            case 10: due(x.copy(3, 0, 3, 0, 1), 1); break;
            case 11: due(x.copy(3, 0, 9, 0, 1), UNKNOWN); break;
            case 12: due(x.as(0, 0), 1); break;
            default: due(x.as(0, 9), OUTSIDE); break;
        }
    }

    private static void many() {
        promise(32);
        HedgeHoles x = new HedgeHoles();
        due(x.many(-1), OUTSIDE);
        due(x.many(5), OUTSIDE);
        told(x, FOUR);
        x.go(0, 1);
        x.go(0, 0);
        x.go(0, 0);
        x.years(3);
        x.years(61);
        x.reading(0, 0, 1, 1);
        seasonOf(x, 0, 3, 2, 5, 10);
        int[] want = {4, 4, 3, 2, 1};
        for (int what = 0; what < 5; what++) {
            due(x.many(what), want[what]);
        }
        due(x.many(5), OUTSIDE);
    }
}
