import java.io.IOException;
import java.lang.reflect.Method;
import java.lang.reflect.Modifier;
import java.nio.file.Files;
import java.nio.file.Path;
import java.util.ArrayList;
import java.util.Arrays;
import java.util.List;
import java.util.stream.Collectors;

/** README.md shows calls with their answers, and has a row for each method: both are true. */
public final class ReadmeTest {
    private static final List<String> WRONG = new ArrayList<>();

    public static void main(String[] args) throws IOException {
        String readme = Files.readString(Path.of("README.md"));
        hasEachMethod(readme);
        hasEachTest(readme);
        exampleAnswers(readme);
        WRONG.forEach(System.out::println);
        if (!WRONG.isEmpty()) {
            System.exit(1);
        }
        System.out.println("README.md is true");
    }

    private static void hasEachMethod(String readme) {
        for (Method m : CreditGame.class.getDeclaredMethods()) {
            if (Modifier.isPublic(m.getModifiers())) {
                String types = Arrays.stream(m.getParameterTypes())
                        .map(t -> t.getName() + " \\w+")
                        .collect(Collectors.joining(", "));
                String row = "(?s).*\n\\| `" + m.getReturnType() + " " + m.getName() + "\\(" + types + "\\)` \\|.*";
                if (!readme.matches(row)) {
                    WRONG.add("README.md has no row for " + m);
                }
            }
        }
    }

    private static void hasEachTest(String readme) throws IOException {
        try (var files = Files.list(Path.of("src/test/java"))) {
            files.map(f -> f.getFileName().toString().replace(".java", ""))
                    .filter(name -> !readme.contains("- `" + name + "`:"))
                    .forEach(name -> WRONG.add("README.md does not tell of " + name));
        }
    }

    /** A row of the example whose remark begins with an answer. */
    private static void shown(String readme, String call, Object answer) {
        String row = "(?s).*\n" + java.util.regex.Pattern.quote(call) + " *// " + answer + "\\b.*";
        if (!readme.matches(row)) {
            WRONG.add("README.md does not show: " + call + " // " + answer);
        }
    }

    private static void exampleAnswers(String readme) {
        CreditGame g = new CreditGame();
        int a = g.vertex(0);
        shown(readme, "int a = g.vertex(0);", a);
        int b = g.vertex(1);
        shown(readme, "int b = g.vertex(1);", b);
        shown(readme, "int stay = g.edge(a, a, -1);", g.edge(a, a, -1));
        shown(readme, "int back = g.edge(b, a, 3);", g.edge(b, a, 3));
        int rest = g.edge(b, b, 2);
        shown(readme, "int rest = g.edge(b, b, 2);", rest);
        shown(readme, "int go = g.edge(a, b, -3);", g.edge(a, b, -3));
        shown(readme, "g.credit(a);", g.credit(a));
        shown(readme, "g.value(a, false);", g.value(a, false));
        shown(readme, "g.value(a, true);", g.value(a, true));
        shown(readme, "g.reaches(a, 1, 9);", g.reaches(a, 1, 9));
        shown(readme, "g.best(a);", g.best(a));
        shown(readme, "g.walk(a, 1);", g.walk(a, 1));
        g.fix(b, rest);
        shown(readme, "g.fixed(b);", g.fixed(b));
        shown(readme, "g.value(a, false);", g.value(a, false));
        g.fix(b, CreditGame.NONE);
        shown(readme, "g.settle(0);", g.settle(0));
        shown(readme, "g.fixed(a);", g.fixed(a));
    }
}
