import java.io.IOException;
import java.lang.reflect.Constructor;
import java.lang.reflect.Field;
import java.lang.reflect.Method;
import java.lang.reflect.Modifier;
import java.nio.file.Files;
import java.nio.file.Path;
import java.util.ArrayList;
import java.util.List;
import java.util.Set;
import java.util.TreeSet;
import java.util.regex.Matcher;
import java.util.regex.Pattern;

/** The class as it is seen from outside, and the rules of LANGUAGE.md that can be seen in its text. */
public final class FaceTest {
    private static final String[] METHODS = {
        "int county(int,int,int,int)", "int ofGoer(int,int)", "int hole(int,int,int)", "int hoop(int,int,int)",
        "int fatten(int,int)", "int go(int,int)", "int years(int)", "int stop(int,int)",
        "int season(int,int,int,int,int)", "int widest(int,int)", "int way(int,int,int)", "int market(int)",
        "int widen(int,int)", "int keep(int,int)", "int reading(int,int,int,int)", "int back(int)",
        "int girths(int)", "int kinds(int)", "int holes(int,int)", "long odds(int,int,int)",
        "int sheet(int,int,int)", "int lose(int)", "int put(int,int,int)", "long cell(int,int,int)",
        "int copy(int,int,int,int,int)", "int tell(int)", "int hail(int)", "int as(int,int)", "int trace()",
        "int fault()", "int many(int)"
    };
    private static final String[] CONSTANTS = {
        "int UNKNOWN -1", "int OUTSIDE -2", "int STATE -3", "int FULL -4", "int NONE -9",
        "long LOST " + Long.MIN_VALUE
    };
    private static final Path DOCUMENT = Path.of("../shared/DOC.md");
    private static final Path TEXT = Path.of("src/main/java/HedgeHoles.java");
    private static final Set<String> LIBRARY = Set.of("Arrays.fill", "Arrays.copyOf", "Arrays.copyOfRange",
        "System.arraycopy", "Integer.bitCount", "Math.min", "Math.max", "Math.abs", "Long.MIN_VALUE");
    private static int wrong = 0;

    public static void main(String[] args) throws IOException, IllegalAccessException {
        classItself();
        methods();
        constants();
        nestedClasses();
        words(code());
        library(code());
        lengths(code());
        if (Files.exists(DOCUMENT)) {
            documentsFace(Files.readString(DOCUMENT));
            headings(Files.readString(DOCUMENT));
        }
        System.out.println(wrong == 0 ? "the face is as due" : wrong + " things are not as due");
        if (wrong != 0) {
            System.exit(1);
        }
    }

    private static void due(boolean holds, String what) {
        if (!holds) {
            wrong++;
            System.out.println("not so: " + what);
        }
    }

    private static void classItself() {
        int m = HedgeHoles.class.getModifiers();
        due(Modifier.isPublic(m) && Modifier.isFinal(m), "the class is public and final");
        Constructor<?>[] made = HedgeHoles.class.getDeclaredConstructors();
        due(made.length == 1 && Modifier.isPublic(made[0].getModifiers()) && made[0].getParameterCount() == 0,
            "there is one constructor, public and without parameters");
    }

    private static void methods() {
        Set<String> seen = new TreeSet<>();
        Set<String> names = new TreeSet<>();
        for (Method m : HedgeHoles.class.getDeclaredMethods()) {
            if (!Modifier.isPrivate(m.getModifiers())) {
                due(Modifier.isPublic(m.getModifiers()) && !Modifier.isStatic(m.getModifiers()), m + " is public");
                seen.add(signature(m));
                names.add(m.getName());
            }
        }
        due(seen.equals(new TreeSet<>(Set.of(METHODS))), "the public methods are the document's: " + seen);
        for (Method m : HedgeHoles.class.getDeclaredMethods()) {
            due(!Modifier.isPrivate(m.getModifiers()) || !names.contains(m.getName()),
                "private method " + m.getName() + " has a name of its own");
            due(m.getParameterCount() <= 7, m.getName() + " takes seven parameters at most");
        }
    }

    private static String signature(Method m) {
        StringBuilder b = new StringBuilder(m.getReturnType() + " " + m.getName() + "(");
        for (Class<?> p : m.getParameterTypes()) {
            b.append(b.charAt(b.length() - 1) == '(' ? "" : ",").append(p);
        }
        return b.append(")").toString();
    }

    private static void constants() throws IllegalAccessException {
        Set<String> seen = new TreeSet<>();
        int own = 0;
        for (Field f : HedgeHoles.class.getDeclaredFields()) {
            int m = f.getModifiers();
            due(!Modifier.isStatic(m) || Modifier.isFinal(m), f.getName() + " is final, being static");
            own += Modifier.isStatic(m) ? 0 : 1;
            if (!Modifier.isPrivate(m)) {
                due(Modifier.isPublic(m) && Modifier.isStatic(m), f.getName() + " is a public constant");
                seen.add(f.getType() + " " + f.getName() + " " + f.get(null));
            }
        }
        due(seen.equals(new TreeSet<>(Set.of(CONSTANTS))), "the public constants are the document's: " + seen);
        due(own <= 20, "there are twenty fields at most");
    }

    private static void nestedClasses() {
        Class<?>[] inside = HedgeHoles.class.getDeclaredClasses();
        due(inside.length <= 11, "there are twelve classes at most");
        for (Class<?> c : inside) {
            int m = c.getModifiers();
            due(Modifier.isStatic(m) && !Modifier.isPublic(m) && !Modifier.isProtected(m), c + " is static, not public");
            due(c.getDeclaredFields().length <= 20, c + " has twenty fields at most");
            for (Field f : c.getDeclaredFields()) {
                int kept = f.getModifiers();
                due(!Modifier.isStatic(kept) || Modifier.isFinal(kept), f + " is final, being static");
            }
            for (Method f : c.getDeclaredMethods()) {
                due(f.getParameterCount() <= 7, f + " takes seven parameters at most");
            }
        }
    }

    // ---- the rules of LANGUAGE.md, in the text

    private static String code() throws IOException {
        return Files.readString(TEXT).replaceAll("(?s)/\\*.*?\\*/", " ").replaceAll("//[^\n]*", " ");
    }

    private static List<String> found(String pattern, String in) {
        List<String> all = new ArrayList<>();
        Matcher m = Pattern.compile(pattern).matcher(in);
        while (m.find()) {
            all.add(m.group());
        }
        return all;
    }

    private static void words(String code) {
        String[] none = {"throw", "throws", "try", "catch", "synchronized", "assert", "package", "native", "volatile",
            "Object", "System.out", "System.currentTimeMillis", "System.nanoTime", "Random", "Thread", "equals",
            "hashCode", "toString", "instanceof", "double", "float"};
        for (String word : none) {
            due(!code.matches("(?s).*\\b" + word.replace(".", "\\.") + "\\b.*"), "the text is without " + word);
        }
        due(!code.contains("->") && !code.contains("::"), "the text is without lambdas and method references");
        due(!code.matches("(?s).*\\+ *\".*") && !code.matches("(?s).*\" *\\+.*"), "no text is joined by +");
        due(found("static\\s*\\{", code).isEmpty(), "there is no static initialiser block");
        due(found("\\bwhile\\b", code).isEmpty(), "every loop counts against a bound");
        for (int x = 0; x < code.length(); x++) {
            due(code.charAt(x) < 128, "sign " + x + " is one of 1 to 127");
        }
    }

    private static void library(String code) {
        due(found("import [^;]*;", code).equals(List.of("import java.util.Arrays;")), "nothing but Arrays is imported");
        for (String used : found("\\b(Arrays|System|Integer|Long|Math|String|List)\\.\\w+", code)) {
            due(LIBRARY.contains(used), used + " is of the library that may be used");
        }
    }

    /** Methods are told by their indents, which are four spaces in the class and eight in one inside it. */
    private static void lengths(String code) {
        for (String indent : new String[] {"    ", "        "}) {
            for (String method : found("(?ms)^" + indent + "\\w[^\n;=]*\\) \\{\n.*?^" + indent + "\\}", code)) {
                due(method.lines().count() <= 60, "sixty lines at most: " + method.lines().findFirst().get());
            }
        }
    }

    // ---- the document's own words

    private static void documentsFace(String document) throws IOException {
        String face = document.replaceAll("(?s).*## The public face\\s*```java(.*?)```.*", "$1");
        List<String> told = found("public [^;{=]*\\)(?=;)", face);
        List<String> written = found("public [^;{=]*\\)(?= \\{)", code());
        due(told.size() == 1 + METHODS.length, "the document tells a constructor and each method: " + told);
        due(told.equals(written), "the face is the document's, with its names and in its order: " + written);
        for (String constant : found("public static final [^;]*;", face)) {
            due(code().contains(constant), "there is " + constant);
        }
    }

    private static void headings(String document) throws IOException {
        String text = Files.readString(TEXT);
        Matcher m = Pattern.compile("Ahead of the calls (.*?) the interface says: (---- .*?)\\.\n").matcher(document);
        int calls = 0;
        while (m.find()) {
            int from = text.indexOf("// " + m.group(2) + "\n");
            due(from >= 0, "the interface says " + m.group(2));
            String part = from < 0 ? "" : text.substring(from + 3, text.indexOf("// ----", from + 3));
            List<String> under = found("(?<=public (int|long) )\\w+(?=\\()", part);
            due(under.equals(found("\\w+", m.group(1))), "under " + m.group(2) + " stand " + m.group(1) + ": " + under);
            calls += under.size();
        }
        due(calls == METHODS.length, "each call stands under a heading");
    }
}
