import java.io.IOException;
import java.lang.reflect.Constructor;
import java.lang.reflect.Field;
import java.lang.reflect.Method;
import java.lang.reflect.Modifier;
import java.nio.file.Files;
import java.nio.file.Path;
import java.util.Set;
import java.util.TreeSet;

/** The class as it is seen from outside, and the rules of LANGUAGE.md that can be seen in its text. */
public final class FaceTest {
    private static final String[] METHODS = {
        "int county(int,int,int,int)", "int ofGoer(int,int)", "int hole(int,int,int)", "int hoop(int,int,int)",
        "int fatten(int,int)", "int go(int,int)", "int years(int)", "int stop(int,int)",
        "int season(int,int,int,int,int)", "int widest(int,int)", "int way(int,int,int)", "int market(int)",
        "int widen(int,int)", "int keep(int,int)", "int reading(int,int,int,int)", "int back(int)",
        "int girths(int)", "int kinds(int)", "int holes(int,int)", "long odds(int,int,int)",
        "int sheet(int,int,int)", "int lose(int)", "int put(int,int,int)", "long cell(int,int,int)",
        "int copy(int,int,int,int,int)", "int tell(int)", "int hail(int)", "int as(int,int)", "int trace()",
        "int fault()", "int many(int)"
    };
    private static final String[] CONSTANTS = {
        "int UNKNOWN -1", "int OUTSIDE -2", "int STATE -3", "int FULL -4", "int NONE -9",
        "long LOST " + Long.MIN_VALUE
    };
    private static int wrong = 0;

    public static void main(String[] args) throws IOException, IllegalAccessException {
        classItself();
        methods();
        constants();
        nestedClasses();
        text();
        System.out.println(wrong == 0 ? "the face is as due" : wrong + " things are not as due");
        if (wrong != 0) {
            System.exit(1);
        }
    }

    private static void due(boolean holds, String what) {
        if (!holds) {
            wrong++;
            System.out.println("not so: " + what);
        }
    }

    private static void classItself() {
        int m = HedgeHoles.class.getModifiers();
        due(Modifier.isPublic(m) && Modifier.isFinal(m), "the class is public and final");
        Constructor<?>[] made = HedgeHoles.class.getDeclaredConstructors();
        due(made.length == 1 && Modifier.isPublic(made[0].getModifiers()) && made[0].getParameterCount() == 0,
            "there is one constructor, public and without parameters");
    }

    private static void methods() {
        Set<String> seen = new TreeSet<>();
        Set<String> names = new TreeSet<>();
        for (Method m : HedgeHoles.class.getDeclaredMethods()) {
            if (!Modifier.isPrivate(m.getModifiers())) {
                due(Modifier.isPublic(m.getModifiers()) && !Modifier.isStatic(m.getModifiers()), m + " is public");
                seen.add(signature(m));
                names.add(m.getName());
            }
        }
        due(seen.equals(new TreeSet<>(Set.of(METHODS))), "the public methods are the document's: " + seen);
        for (Method m : HedgeHoles.class.getDeclaredMethods()) {
            due(!Modifier.isPrivate(m.getModifiers()) || !names.contains(m.getName()),
                "private method " + m.getName() + " has a name of its own");
            due(m.getParameterCount() <= 7, m.getName() + " takes seven parameters at most");
        }
    }

    private static String signature(Method m) {
        StringBuilder b = new StringBuilder(m.getReturnType() + " " + m.getName() + "(");
        for (Class<?> p : m.getParameterTypes()) {
            b.append(b.charAt(b.length() - 1) == '(' ? "" : ",").append(p);
        }
        return b.append(")").toString();
    }

    private static void constants() throws IllegalAccessException {
        Set<String> seen = new TreeSet<>();
        int own = 0;
        for (Field f : HedgeHoles.class.getDeclaredFields()) {
            int m = f.getModifiers();
            due(!Modifier.isStatic(m) || Modifier.isFinal(m), f.getName() + " is final, being static");
            own += Modifier.isStatic(m) ? 0 : 1;
            if (!Modifier.isPrivate(m)) {
                due(Modifier.isPublic(m) && Modifier.isStatic(m), f.getName() + " is a public constant");
                seen.add(f.getType() + " " + f.getName() + " " + f.get(null));
            }
        }
        due(seen.equals(new TreeSet<>(Set.of(CONSTANTS))), "the public constants are the document's: " + seen);
        due(own <= 20, "there are twenty fields at most");
    }

    private static void nestedClasses() {
        Class<?>[] inside = HedgeHoles.class.getDeclaredClasses();
        due(inside.length <= 11, "there are twelve classes at most");
        for (Class<?> c : inside) {
            int m = c.getModifiers();
            due(Modifier.isStatic(m) && !Modifier.isPublic(m) && !Modifier.isProtected(m), c + " is static, not public");
            due(c.getDeclaredFields().length <= 20, c + " has twenty fields at most");
        }
    }

    private static void text() throws IOException {
        String code = Files.readString(Path.of("src/main/java/HedgeHoles.java"))
            .replaceAll("(?s)/\\*.*?\\*/", " ").replaceAll("//[^\n]*", " ");
        String[] none = {"throw", "throws", "try", "catch", "synchronized", "assert", "package", "native", "volatile",
            "Object", "System.out", "System.currentTimeMillis", "System.nanoTime", "Random", "Thread"};
        for (String word : none) {
            due(!code.matches("(?s).*\\b" + word.replace(".", "\\.") + "\\b.*"), "the text is without " + word);
        }
        due(!code.contains("->") && !code.contains("::"), "the text is without lambdas and method references");
        due(!code.matches("(?s).*\\+ *\".*") && !code.matches("(?s).*\" *\\+.*"), "no text is joined by +");
        for (int x = 0; x < code.length(); x++) {
            due(code.charAt(x) < 128, "sign " + x + " is one of 1 to 127");
        }
    }
}
