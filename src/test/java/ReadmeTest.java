import java.io.IOException;
import java.nio.file.Files;
import java.nio.file.Path;
import java.util.ArrayList;
import java.util.Comparator;
import java.util.List;
import java.util.regex.Matcher;
import java.util.regex.Pattern;
import java.util.stream.Stream;

/**
 * The examples of README.md. All its Java stands one behind another in a program, in which each line that tells an
 * answer (a call, then "// answer: ..") compares it; that program is compiled and run.
 */
public final class ReadmeTest {
    private static final Pattern BLOCK = Pattern.compile("(?ms)^```java\\n(.*?)^```");
    private static final Pattern ANSWERED = Pattern.compile("(?m)^(x\\.\\w+\\(.*?\\));\\s*// (-?\\d+|[A-Z]+): .*$");

    private static int wrong = 0;

    public static void main(String[] args) throws IOException, InterruptedException {
        String page = Files.readString(Path.of("README.md"));
        namesWhatIsUsed(page);
        examplesAnswerSo(page);
        System.out.println(wrong == 0 ? "README.md tells what is so" : wrong + " things are not as due");
        if (wrong != 0) {
            System.exit(1);
        }
    }

    private static void due(boolean holds, String what) {
        if (!holds) {
            wrong++;
            System.out.println("not so: " + what);
        }
    }

    private static void namesWhatIsUsed(String page) {
        for (String name : Calls.names()) {
            String numbers = Calls.taken(name) == 0 ? "" : "\\w+(, \\w+){" + (Calls.taken(name) - 1) + "}";
            due(Pattern.compile("`" + name + "\\(" + numbers + "\\)`").matcher(page).find(), "it tells of " + name);
        }
        for (String word : List.of("UNKNOWN", "OUTSIDE", "STATE", "FULL", "NONE", "LOST", "fault()", "-100 less",
            "-10 less", "512 calls", ".ci/run")) {
            due(page.contains(word), "it tells of " + word);
        }
    }

    private static void examplesAnswerSo(String page) throws IOException, InterruptedException {
        StringBuilder lines = new StringBuilder();
        Matcher block = BLOCK.matcher(page);
        while (block.find()) {
            lines.append(block.group(1));
        }
        Matcher answered = ANSWERED.matcher(lines);
        List<String> told = new ArrayList<>();
        while (answered.find()) {
            told.add(answered.group(1));
        }
        due(told.size() >= 40, "there are examples that tell answers: " + told.size());
        String body = answered.replaceAll("due(\"$1\", $1, $2);");
        runs("public final class Examples {\n"
            + "static final int UNKNOWN = -1, OUTSIDE = -2, STATE = -3, FULL = -4, NONE = -9;\n"
            + "static final long LOST = Long.MIN_VALUE;\n"
            + "static int wrong = 0;\n"
            + "static void due(String call, long got, long want) {\n"
            + "if (got != want) { wrong++; System.out.println(call + \" answers \" + got + \", told is \" + want); } }\n"
            + "public static void main(String[] args) {\n" + body + "System.exit(wrong == 0 ? 0 : 1); } }\n");
    }

    private static void runs(String program) throws IOException, InterruptedException {
        Path folder = Files.createTempDirectory("readme");
        try {
            String text = Files.writeString(folder.resolve("Examples.java"), program).toString();
            String path = System.getProperty("java.class.path") + System.getProperty("path.separator") + folder;
            boolean compiles = ends("javac", "--release", "17", "-cp", path, "-d", folder.toString(), text);
            due(compiles, "the examples compile");
            due(!compiles || ends("java", "-cp", path, "Examples"), "the examples answer as they tell");
        } finally {
            remove(folder);
        }
    }

    private static boolean ends(String... command) throws IOException, InterruptedException {
        return new ProcessBuilder(command).inheritIO().start().waitFor() == 0;
    }

    private static void remove(Path folder) throws IOException {
        try (Stream<Path> all = Files.walk(folder)) {
            for (Path p : all.sorted(Comparator.reverseOrder()).toList()) {
                Files.delete(p);
            }
        }
    }
}
