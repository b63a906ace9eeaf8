import java.lang.reflect.InvocationTargetException;
import java.lang.reflect.Method;
import java.nio.file.Files;
import java.nio.file.Path;
import java.util.ArrayList;
import java.util.Arrays;
import java.util.Comparator;
import java.util.List;
import java.util.Set;
import java.util.TreeSet;

/**
 * What the tests of edges have in common. Each test is a method promiseN_sentence, which quotes the words of the
 * document that it is for; that they stand there, for that promise, is looked at too.
 */
abstract class Edges {
    static final int UNKNOWN = -1, OUTSIDE = -2, STATE = -3, FULL = -4, NONE = -9;
    static final int NULL = 1, CAST = 2, INDEX = 3, SIZE = 4;
    static final long LOST = Long.MIN_VALUE;
    static final int MIN = Integer.MIN_VALUE, MAX = Integer.MAX_VALUE;

    // Four fields, holes 01:4 02:0 03:7 12:0 13:3 23:6; a plain one, a thief, a child, a plain one.
    static final String FOUR = "h4407036;g40;t82;c91;g63";

    private static final Path DOCUMENT = Path.of("../shared/DOC.md");

    private static String current = "";
    private static int wrong = 0;

    /** Runs every test of a class; there must be one at least for each promise from first to last. */
    static void run(Class<?> tests, int first, int last) throws Exception {
        boolean isThere = Files.exists(DOCUMENT);
        String[] sections = isThere ? Files.readString(DOCUMENT).split("\n## ") : new String[0];
        Set<Integer> met = new TreeSet<>();
        List<Method> all = testsOf(tests);
        for (Method test : all) {
            current = test.getName();
            met.add(promiseOf(test));
            Says says = test.getAnnotation(Says.class);
            holds(says != null, "it quotes the document");
            // The quotes are a check of the tests, not of the class: without a document they are passed over.
            for (String words : says != null && isThere ? says.value() : new String[0]) {
                holds(isSaid(sections, promiseOf(test), words), "the document says it for this promise: " + words);
            }
            perform(test);
        }
        current = tests.getName();
        for (int promise = first; promise <= last; promise++) {
            holds(met.contains(promise), "promise " + promise + " has a test");
        }
        System.out.println(all.size() + " sentences, " + wrong + " answers that are not as due");
        if (wrong != 0) {
            System.exit(1);
        }
    }

    static List<Method> testsOf(Class<?> tests) {
        List<Method> all = new ArrayList<>(Arrays.asList(tests.getDeclaredMethods()));
        all.removeIf(m -> !m.getName().startsWith("promise"));
        all.sort(Comparator.comparingInt(Edges::promiseOf).thenComparing(Method::getName));
        return all;
    }

    private static void perform(Method test) throws IllegalAccessException {
        test.setAccessible(true);
        try {
            test.invoke(null);
        } catch (InvocationTargetException e) {
            holds(false, "it comes to its end");
            e.getCause().printStackTrace(System.out);
        }
    }

    static int promiseOf(Method test) {
        return Integer.parseInt(test.getName().replaceAll("^promise|_.*", ""));
    }

    /** Whether words stand in the section of a promise, or in one that is for all promises. */
    private static boolean isSaid(String[] sections, int promise, String words) {
        for (String section : sections) {
            boolean isOther = section.startsWith("Promise ") && !section.startsWith("Promise " + promise + ":");
            if (!isOther && section.contains(words)) {
                return true;
            }
        }
        return false;
    }

    static void holds(boolean so, String what) {
        if (!so) {
            wrong++;
            System.out.println(current + ": not so: " + what);
        }
    }

    // ---- what tests begin with

    static Run fresh() {
        return new Run();
    }

    static Run of(String text) {
        Run run = new Run();
        run.told((text.length() - text.indexOf(';')) / 4, text);
        return run;
    }

    /** Nothing as it was at first: a hole worn, a year gone, readings, a trace, a sheet of each lane; sheet 3 has nothing. */
    static Run busy() {
        return of(FOUR).due(0, "go", 0, 1).due(4, "years", 1).due(1, "go", 0, 0)
            .due(0, "reading", 0, 0, 1, 1).due(1, "reading", 1, 2, 3, 0).due(118, "tell", 2)
            .row(1, 2, 7, MIN, MAX).row(2, 1, -5);
    }

    /** Numbers that are not low .. high, the nearest and the farthest, and some that would be if they were cut. */
    static int[] beyond(int low, int high) {
        return new int[] {MIN, low - 1, high + 1, low + 256, low + 65536, MAX};
    }

    // ---- what many tests ask

    /** The first number names a goer: those who are not there are refused, of one to five; the last who is there is not. */
    static void unknownGoer(String name, int... with) {
        for (int goers = 1; goers <= 5; goers++) {
            unknownAt(0, goers - 1, of("h25" + ";g30".repeat(goers)), name, with);
        }
    }

    /** The number at a place names a field: those that are not there are refused, of two to five; the last is not. */
    static void unknownField(int place, String name, int... with) {
        for (int fields = 2; fields <= 5; fields++) {
            unknownAt(place, fields - 1, of(open(fields, 5, ";g30")), name, with);
        }
    }

    /** The numbers at a place and behind it name two fields: refused where either is not there, or both are the same. */
    static void unknownEither(int place, String name, int... with) {
        unknownField(place, name, changed(with, place + 1, 0));
        unknownField(place + 1, name, changed(with, place, 0));
        for (int fields = 2; fields <= 5; fields++) {
            for (int field = -1; field <= fields; field++) {
                of(open(fields, 5, ";g30")).refused(UNKNOWN, name, changed(changed(with, place, field), place + 1, field));
            }
        }
    }

    private static void unknownAt(int place, int last, Run run, String name, int[] with) {
        long refusal = name.equals("odds") ? LOST : UNKNOWN;
        for (int number : beyond(0, last)) {
            run.refused(refusal, name, changed(with, place, number));
        }
        run.notAnswered(refusal, name, changed(with, place, last));
    }

    private static int[] changed(int[] numbers, int place, int number) {
        int[] other = numbers.clone();
        other[place] = number;
        return other;
    }

    // ---- texts

    /** A text of so many fields, all of whose holes are as great as told, with goers behind. */
    static String open(int fields, int width, String goers) {
        return "h" + fields + String.valueOf(width).repeat(hedges(fields)) + goers;
    }

    static int hedges(int fields) {
        return fields * (fields - 1) / 2;
    }
}
