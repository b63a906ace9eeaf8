import java.io.IOException;
import java.lang.reflect.Method;
import java.nio.file.Files;
import java.nio.file.Path;
import java.util.BitSet;
import java.util.List;

/**
 * That every word of the document's terms and promises is quoted by a test of edges: a promise's own words by a test of
 * that promise. The face and the headings of the interface are compared by FaceTest.
 */
public final class DocumentTest {
    private static final Path DOCUMENT = Path.of("../shared/DOC.md");
    private static final List<Class<?>> TESTS = List.of(CountyEdges.class, GoingEdges.class, ComingEdges.class,
        FittedEdges.class, SheetEdges.class);
    private static final int ALL = 0;

    private static int wrong = 0;

    public static void main(String[] args) throws IOException {
        // As in Edges: this looks at the tests, not at the class, so that without a document it is passed over.
        String document = Files.exists(DOCUMENT) ? Files.readString(DOCUMENT) : "";
        for (String section : document.split("\n## ")) {
            if (section.startsWith("Terms\n")) {
                quoted(ALL, section.replaceAll("(?m)\\ATerms$|^==== \\d|^```.*$|^Ahead of the calls .*$", ""));
            } else if (section.startsWith("Promise ")) {
                int promise = Integer.parseInt(section.replaceAll("(?s)^Promise |:.*", ""));
                quoted(promise, section.replaceAll("(?s)^[^\n]*\\s*`[^`]*`:", ""));
            }
        }
        System.out.println(wrong == 0 ? "every word is quoted" : wrong + " parts are quoted by no test");
        if (wrong != 0) {
            System.exit(1);
        }
    }

    private static void quoted(int promise, String words) {
        BitSet met = new BitSet();
        for (Class<?> tests : TESTS) {
            for (Method test : Edges.testsOf(tests)) {
                if (promise == ALL || Edges.promiseOf(test) == promise) {
                    for (String quote : test.getAnnotation(Says.class).value()) {
                        meet(words, quote, met);
                    }
                }
            }
        }
        for (int from = met.nextClearBit(0); from < words.length(); from = met.nextClearBit(from)) {
            int to = met.nextSetBit(from) < 0 ? words.length() : met.nextSetBit(from);
            if (words.substring(from, to).matches("(?s).*\\w.*")) {
                wrong++;
                System.out.println("quoted by no test" + (promise == ALL ? ": " : " of promise " + promise + ": ")
                    + words.substring(from, to).strip());
            }
            from = to;
        }
    }

    private static void meet(String words, String quote, BitSet met) {
        for (int at = words.indexOf(quote); at >= 0; at = words.indexOf(quote, at + 1)) {
            met.set(at, at + quote.length());
        }
    }
}
