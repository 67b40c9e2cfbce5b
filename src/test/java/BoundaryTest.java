import java.lang.annotation.Retention;
import java.lang.annotation.RetentionPolicy;
import java.lang.reflect.InvocationTargetException;
import java.lang.reflect.Method;
import java.util.Arrays;
import java.util.Comparator;
import java.util.List;
import java.util.stream.Collectors;

/**
 * Each sentence of the document that names a boundary case has a test of its own here: a method whose
 * name begins with its promise, with the sentence beside it. Every such method is found and run.
 */
public final class BoundaryTest {
    private static final int NONE = CreditGame.NONE;
    private static final Class<?> ARGUMENT = IllegalArgumentException.class;
    private static final Class<?> STATE = IllegalStateException.class;
    private static final int PROMISES = 11;

    /** Numbers that look like -1 or less, or, cut to fewer bits or turned round, like a small number. */
    private static final int[] TOO_SMALL = {-1, -2, -7, -8, -256, -65536, Integer.MIN_VALUE, Integer.MIN_VALUE + 1};
    private static final int[] TOO_LARGE = {7, 8, 24, 31, 32, 256, 65536, 1 << 30, Integer.MAX_VALUE};

    private static int wrong = 0;
    private static String running = "";

    /** The sentence of the document that a test holds to. */
    @Retention(RetentionPolicy.RUNTIME)
    private @interface Says {
        String value();
    }

    private interface Call {
        void run();
    }

    public static void main(String[] args) throws IllegalAccessException {
        List<Method> tests = Arrays.stream(BoundaryTest.class.getDeclaredMethods())
                .filter(m -> m.isAnnotationPresent(Says.class))
                .sorted(Comparator.comparingInt(BoundaryTest::promiseOf).thenComparing(Method::getName))
                .collect(Collectors.toList());
        for (int p = 1; p <= PROMISES; p++) {
            int promise = p;
            if (tests.stream().noneMatch(m -> promiseOf(m) == promise)) {
                wrong++;
                System.out.println("promise " + p + " has no boundary test");
            }
        }
        for (Method test : tests) {
            run(test);
        }
        if (wrong > 0) {
            System.out.println(wrong + " wrong answers");
            System.exit(1);
        }
        System.out.println(tests.size() + " boundary tests hold");
    }

    private static int promiseOf(Method test) {
        String digits = test.getName().replaceFirst("^promise([0-9]+)_.*$", "$1");
        return Integer.parseInt(digits);
    }

    private static void run(Method test) throws IllegalAccessException {
        running = "promise " + promiseOf(test) + " (\"" + test.getAnnotation(Says.class).value() + "\"), "
                + test.getName();
        try {
            test.invoke(null);
        } catch (InvocationTargetException e) {
            tell("a call threw " + e.getCause());
        }
    }

    private static void tell(String what) {
        wrong++;
        System.out.println(running + ": " + what);
    }

    private static void due(String what, int got, int want) {
        if (got != want) {
            tell(what + " answered " + got + ", due is " + want);
        }
    }

    private static void due(String what, boolean got, boolean want) {
        if (got != want) {
            tell(what + " answered " + got + ", due is " + want);
        }
    }

    private static void due(String what, String got, String want) {
        if (!got.equals(want)) {
            tell(what + " is " + got + ", due is " + want);
        }
    }

    private static void refused(String what, Class<?> want, Call call) {
        Class<?> got = null;
        try {
            call.run();
        } catch (RuntimeException e) {
            got = e.getClass();
        }
        if (got != want) {
            tell(what + (got == null ? " was not refused" : " threw " + got.getName()) + ", due is " + want.getName());
        }
    }

    private static CreditGame game(int[] players, int[]... edges) {
        CreditGame g = new CreditGame();
        for (int player : players) {
            g.vertex(player);
        }
        for (int[] e : edges) {
            g.edge(e[0], e[1], e[2]);
        }
        return g;
    }

    private static int[] players(int... list) {
        return list;
    }

    private static int[] e(int from, int to, int weight) {
        return new int[] {from, to, weight};
    }

    /** Player 0 may lose 1 for ever, or pay 3 to go where player 1 must give it back. */
    private static CreditGame small() {
        return game(players(0, 1), e(0, 0, -1), e(1, 0, 3), e(1, 1, 2), e(0, 1, -3));
    }

    /** Not complete: no edge leads from the vertex 1. */
    private static CreditGame open() {
        return game(players(0, 1), e(0, 0, 1), e(0, 1, 2));
    }

    /** A ring of vertices of both players, the first edge of one weight, the others of another. */
    private static CreditGame ring(int length, int first, int others) {
        CreditGame g = new CreditGame();
        for (int v = 0; v < length; v++) {
            g.vertex(v % 2);
        }
        for (int v = 0; v < length; v++) {
            g.edge(v, (v + 1) % length, v == 0 ? first : others);
        }
        return g;
    }

    /** Seven vertices in a line, all edges of one weight but the loop at its end. */
    private static CreditGame line(int weight, int end) {
        CreditGame g = new CreditGame();
        for (int v = 0; v < 7; v++) {
            g.vertex(v % 2);
        }
        for (int v = 0; v < 6; v++) {
            g.edge(v, v + 1, weight);
        }
        g.edge(6, 6, end);
        return g;
    }

    /** Seven vertices and 24 edges: edge n goes from the vertex n % 7. */
    private static CreditGame full() {
        CreditGame g = new CreditGame();
        for (int v = 0; v < 7; v++) {
            g.vertex(v % 2);
        }
        for (int n = 0; n < 24; n++) {
            g.edge(n % 7, n * 3 % 7, n * 5 % 19 - 9);
        }
        return g;
    }

    /** All that can be asked of a complete game. */
    private static String told(CreditGame g, int vertices) {
        StringBuilder text = new StringBuilder();
        for (int v = 0; v < vertices; v++) {
            text.append(v).append(": fixed ").append(g.fixed(v));
            text.append(" credit ").append(g.credit(v));
            text.append(" value ").append(g.value(v, false)).append('/').append(g.value(v, true));
            text.append(" best ").append(g.best(v)).append(" walk");
            for (int what = 0; what < 4; what++) {
                text.append(' ').append(g.walk(v, what));
            }
            text.append("; ");
        }
        return text.toString();
    }

    private static void value(String what, CreditGame g, int vertex, int top, int bottom) {
        due(what + ": value(" + vertex + ", false)", g.value(vertex, false), top);
        due(what + ": value(" + vertex + ", true)", g.value(vertex, true), bottom);
    }

    private static void walk(String what, CreditGame g, int vertex, int front, int loop, int sum, int first) {
        due(what + ": walk(" + vertex + ", 0)", g.walk(vertex, 0), front);
        due(what + ": walk(" + vertex + ", 1)", g.walk(vertex, 1), loop);
        due(what + ": walk(" + vertex + ", 2)", g.walk(vertex, 2), sum);
        due(what + ": walk(" + vertex + ", 3)", g.walk(vertex, 3), first);
    }

    // Promise 1: A new object

    @Says("No vertices, no edges.")
    private static void promise1_noVertices() {
        CreditGame g = new CreditGame();
        refused("edge(0, 0, 0)", ARGUMENT, () -> g.edge(0, 0, 0));
        refused("fix(0, NONE)", ARGUMENT, () -> g.fix(0, NONE));
        refused("fixed(0)", ARGUMENT, () -> g.fixed(0));
        refused("credit(0)", ARGUMENT, () -> g.credit(0));
        refused("reaches(0, 0, 1)", ARGUMENT, () -> g.reaches(0, 0, 1));
        refused("value(0, false)", ARGUMENT, () -> g.value(0, false));
        refused("value(0, true)", ARGUMENT, () -> g.value(0, true));
        refused("best(0)", ARGUMENT, () -> g.best(0));
        refused("walk(0, 0)", ARGUMENT, () -> g.walk(0, 0));
        due("the first vertex", g.vertex(0), 0);
    }

    @Says("No vertices, no edges.")
    private static void promise1_noEdges() {
        CreditGame g = new CreditGame();
        g.vertex(1);
        refused("fix(0, 0)", ARGUMENT, () -> g.fix(0, 0));
        refused("credit(0)", STATE, () -> g.credit(0));
        due("the first edge", g.edge(0, 0, 0), 0);
    }

    @Says("The game is COMPLETE if an edge leads from each vertex, and there is a vertex.")
    private static void promise1_theNewGameIsNotComplete() {
        CreditGame g = new CreditGame();
        refused("settle(0)", STATE, () -> g.settle(0));
        refused("settle(1)", STATE, () -> g.settle(1));
    }

    @Says("No vertices, no edges.")
    private static void promise1_aNewObjectBesideAFullOneIsEmpty() {
        CreditGame other = full();
        String before = told(other, 7);
        CreditGame g = new CreditGame();
        refused("fixed(0)", ARGUMENT, () -> g.fixed(0));
        due("its first vertex", g.vertex(1), 0);
        due("its first edge", g.edge(0, 0, -4), 0);
        g.fix(0, 0);
        due("its value", g.value(0, false), -4);
        due("the full one", told(other, 7), before);
    }

    // Promise 2: vertex

    @Says("A new vertex: its number.")
    private static void promise2_numbersAre0To6() {
        CreditGame g = new CreditGame();
        for (int v = 0; v < 7; v++) {
            due("vertex", g.vertex(v / 4), v);
        }
    }

    @Says("IllegalArgumentException: player is not 0 or 1")
    private static void promise2_playerTooSmall() {
        CreditGame g = new CreditGame();
        for (int player : TOO_SMALL) {
            refused("vertex(" + player + ")", ARGUMENT, () -> g.vertex(player));
        }
    }

    @Says("IllegalArgumentException: player is not 0 or 1")
    private static void promise2_playerTooLarge() {
        CreditGame g = new CreditGame();
        for (int player : new int[] {2, 3, 256, 257, 65536, 65537, Integer.MAX_VALUE}) {
            refused("vertex(" + player + ")", ARGUMENT, () -> g.vertex(player));
        }
    }

    @Says("IllegalArgumentException: player is not 0 or 1")
    private static void promise2_aRefusedPlayerTakesNoNumber() {
        CreditGame g = new CreditGame();
        for (int v = 0; v < 7; v++) {
            refused("vertex(2)", ARGUMENT, () -> g.vertex(2));
            refused("vertex(-1)", ARGUMENT, () -> g.vertex(-1));
            due("the next vertex", g.vertex(0), v);
        }
    }

    @Says("IllegalArgumentException: player is not 0 or 1")
    private static void promise2_aRefusedPlayerLeavesTheGameComplete() {
        CreditGame g = small();
        String before = told(g, 2);
        refused("vertex(2)", ARGUMENT, () -> g.vertex(2));
        due("the game", told(g, 2), before);
    }

    @Says("VERTICES .. belong to PLAYER 0 or 1.")
    private static void promise2_eachVertexBelongsToItsPlayer() {
        for (int player = 0; player < 2; player++) {
            CreditGame g = new CreditGame();
            for (int v = 0; v < 7; v++) {
                g.vertex(v == 6 ? player : 1 - player);
                g.edge(v, v, -2);
                g.edge(v, v, 5);
            }
            for (int v = 0; v < 7; v++) {
                boolean is0 = (v == 6) == (player == 0);
                value("of the player " + (is0 ? 0 : 1), g, v, is0 ? 5 : -2, 1);
            }
        }
    }

    @Says("IllegalStateException: there are 7.")
    private static void promise2_theSeventhIsNotRefused() {
        CreditGame g = game(players(0, 0, 0, 0, 0, 0));
        due("the seventh", g.vertex(1), 6);
        due("fixed(6)", g.fixed(6), NONE);
        due("edge(6, 6, 3)", g.edge(6, 6, 3), 0);
        g.fix(6, 0);
        due("fixed(6) behind fix(6, 0)", g.fixed(6), 0);
    }

    @Says("IllegalStateException: there are 7.")
    private static void promise2_theEighthIsRefused() {
        CreditGame g = game(players(0, 1, 0, 1, 0, 1, 0));
        refused("vertex(0)", STATE, () -> g.vertex(0));
        refused("vertex(1)", STATE, () -> g.vertex(1));
        refused("fixed(7)", ARGUMENT, () -> g.fixed(7));
        refused("edge(7, 7, 0)", ARGUMENT, () -> g.edge(7, 7, 0));
    }

    @Says("IllegalStateException: there are 7.")
    private static void promise2_aRefusedEighthChangesNothing() {
        CreditGame g = full();
        g.fix(3, 10);
        String before = told(g, 7);
        refused("vertex(0)", STATE, () -> g.vertex(0));
        refused("vertex(1)", STATE, () -> g.vertex(1));
        due("the game", told(g, 7), before);
    }

    @Says("IllegalArgumentException: player is not 0 or 1; IllegalStateException: there are 7.")
    private static void promise2_aWrongPlayerAmongSevenIsAWrongArgument() {
        CreditGame g = game(players(0, 1, 0, 1, 0, 1, 0));
        refused("vertex(2)", ARGUMENT, () -> g.vertex(2));
        refused("vertex(-1)", ARGUMENT, () -> g.vertex(-1));
    }

    @Says("A new vertex: its number.")
    private static void promise2_aNewVertexHasNoEdge() {
        CreditGame g = small();
        due("vertex(0)", g.vertex(0), 2);
        refused("credit(0)", STATE, () -> g.credit(0));
        for (int edge = 0; edge < 5; edge++) {
            int n = edge;
            refused("fix(2, " + n + ")", ARGUMENT, () -> g.fix(2, n));
        }
        due("fixed(2)", g.fixed(2), NONE);
    }

    // Promise 3: edge

    @Says("A new edge: its number.")
    private static void promise3_numbersAre0To23() {
        CreditGame g = game(players(0, 1, 0, 1, 0, 1, 0));
        for (int n = 0; n < 24; n++) {
            due("edge", g.edge(n % 7, n / 7, n % 19 - 9), n);
        }
    }

    @Says("EDGES .. go from a vertex to one (which may be the same)")
    private static void promise3_fromAVertexToItself() {
        CreditGame g = game(players(1));
        due("edge(0, 0, 7)", g.edge(0, 0, 7), 0);
        value("the loop", g, 0, 7, 1);
    }

    @Says("EDGES .. go from a vertex to one (which may be the same)")
    private static void promise3_twoEdgesMayBeTheSame() {
        CreditGame g = game(players(0, 0));
        due("edge(0, 1, 2)", g.edge(0, 1, 2), 0);
        due("edge(0, 1, 2) again", g.edge(0, 1, 2), 1);
        due("edge(1, 0, 2)", g.edge(1, 0, 2), 2);
        g.fix(0, 1);
        due("best(0)", g.best(0), 1);
    }

    @Says("IllegalArgumentException: there is no such vertex")
    private static void promise3_fromTooSmall() {
        CreditGame g = full7WithoutEdges();
        for (int from : TOO_SMALL) {
            refused("edge(" + from + ", 0, 0)", ARGUMENT, () -> g.edge(from, 0, 0));
        }
    }

    @Says("IllegalArgumentException: there is no such vertex")
    private static void promise3_fromTooLarge() {
        CreditGame g = full7WithoutEdges();
        for (int from : TOO_LARGE) {
            refused("edge(" + from + ", 0, 0)", ARGUMENT, () -> g.edge(from, 0, 0));
        }
    }

    @Says("IllegalArgumentException: there is no such vertex")
    private static void promise3_toTooSmall() {
        CreditGame g = full7WithoutEdges();
        for (int to : TOO_SMALL) {
            refused("edge(0, " + to + ", 0)", ARGUMENT, () -> g.edge(0, to, 0));
        }
    }

    @Says("IllegalArgumentException: there is no such vertex")
    private static void promise3_toTooLarge() {
        CreditGame g = full7WithoutEdges();
        for (int to : TOO_LARGE) {
            refused("edge(0, " + to + ", 0)", ARGUMENT, () -> g.edge(0, to, 0));
        }
    }

    private static CreditGame full7WithoutEdges() {
        return game(players(0, 1, 0, 1, 0, 1, 0));
    }

    @Says("IllegalArgumentException: there is no such vertex")
    private static void promise3_aVertexThatIsNotMadeYet() {
        CreditGame g = new CreditGame();
        for (int v = 0; v < 7; v++) {
            int next = v;
            refused("edge from the next vertex " + v, ARGUMENT, () -> g.edge(next, 0, 0));
            refused("edge to the next vertex " + v, ARGUMENT, () -> g.edge(0, next, 0));
            g.vertex(0);
            due("edge from and to " + v, g.edge(next, next, 0), v);
        }
    }

    @Says("or weight is not -9 .. 9")
    private static void promise3_theLeastWeight() {
        CreditGame g = game(players(0));
        due("edge(0, 0, -9)", g.edge(0, 0, -9), 0);
        value("the loop", g, 0, -9, 1);
    }

    @Says("or weight is not -9 .. 9")
    private static void promise3_theGreatestWeight() {
        CreditGame g = game(players(1));
        due("edge(0, 0, 9)", g.edge(0, 0, 9), 0);
        value("the loop", g, 0, 9, 1);
    }

    @Says("or weight is not -9 .. 9")
    private static void promise3_weightTooSmall() {
        CreditGame g = game(players(0));
        for (int weight : new int[] {-10, -11, -247, -256, -65536, Integer.MIN_VALUE, Integer.MIN_VALUE + 9}) {
            refused("edge(0, 0, " + weight + ")", ARGUMENT, () -> g.edge(0, 0, weight));
        }
    }

    @Says("or weight is not -9 .. 9")
    private static void promise3_weightTooLarge() {
        CreditGame g = game(players(0));
        for (int weight : new int[] {10, 11, 247, 256, 65536, Integer.MAX_VALUE, Integer.MAX_VALUE - 8}) {
            refused("edge(0, 0, " + weight + ")", ARGUMENT, () -> g.edge(0, 0, weight));
        }
    }

    @Says("IllegalArgumentException: there is no such vertex, or weight is not -9 .. 9")
    private static void promise3_aRefusedEdgeTakesNoNumber() {
        CreditGame g = game(players(0, 1));
        for (int n = 0; n < 24; n++) {
            refused("edge(2, 0, 0)", ARGUMENT, () -> g.edge(2, 0, 0));
            refused("edge(0, 2, 0)", ARGUMENT, () -> g.edge(0, 2, 0));
            refused("edge(0, 0, 10)", ARGUMENT, () -> g.edge(0, 0, 10));
            refused("edge(0, 0, -10)", ARGUMENT, () -> g.edge(0, 0, -10));
            due("the next edge", g.edge(0, 1, 0), n);
        }
    }

    @Says("IllegalArgumentException: there is no such vertex, or weight is not -9 .. 9")
    private static void promise3_aRefusedEdgeDoesNotLead() {
        CreditGame g = open();
        refused("edge(1, 2, 0)", ARGUMENT, () -> g.edge(1, 2, 0));
        refused("edge(1, 0, 10)", ARGUMENT, () -> g.edge(1, 0, 10));
        refused("edge(1, 0, -10)", ARGUMENT, () -> g.edge(1, 0, -10));
        refused("credit(0), still not complete", STATE, () -> g.credit(0));
        g.edge(1, 0, -9);
        String before = told(g, 2);
        refused("edge(0, 0, 10)", ARGUMENT, () -> g.edge(0, 0, 10));
        refused("edge(1, -1, -9)", ARGUMENT, () -> g.edge(1, -1, -9));
        due("the game", told(g, 2), before);
    }

    @Says("IllegalStateException: there are 24.")
    private static void promise3_the24thIsNotRefused() {
        CreditGame g = game(players(0));
        for (int n = 0; n < 23; n++) {
            g.edge(0, 0, -9);
        }
        due("the 24th", g.edge(0, 0, 9), 23);
        value("all 24 lead", g, 0, 9, 1);
        due("the last is the best", g.best(0), 23);
    }

    @Says("IllegalStateException: there are 24.")
    private static void promise3_the25thIsRefused() {
        CreditGame g = full();
        refused("edge(0, 0, 0)", STATE, () -> g.edge(0, 0, 0));
        refused("edge(6, 6, 9)", STATE, () -> g.edge(6, 6, 9));
        refused("edge(6, 0, -9)", STATE, () -> g.edge(6, 0, -9));
    }

    @Says("IllegalStateException: there are 24.")
    private static void promise3_aRefused25thChangesNothing() {
        CreditGame g = full();
        g.fix(5, 12);
        String before = told(g, 7);
        for (int v = 0; v < 7; v++) {
            int at = v;
            refused("edge(" + v + ", " + v + ", 9)", STATE, () -> g.edge(at, at, 9));
            refused("edge(" + v + ", " + v + ", -9)", STATE, () -> g.edge(at, at, -9));
            refused("fix(" + v + ", 24)", ARGUMENT, () -> g.fix(at, 24));
        }
        due("the game", told(g, 7), before);
    }

    @Says("IllegalArgumentException: there is no such vertex, or weight is not -9 .. 9; IllegalStateException: there are 24.")
    private static void promise3_wrongArgumentsAmong24AreWrongArguments() {
        CreditGame g = full();
        refused("edge(7, 0, 0)", ARGUMENT, () -> g.edge(7, 0, 0));
        refused("edge(-1, 0, 0)", ARGUMENT, () -> g.edge(-1, 0, 0));
        refused("edge(0, 7, 0)", ARGUMENT, () -> g.edge(0, 7, 0));
        refused("edge(0, -1, 0)", ARGUMENT, () -> g.edge(0, -1, 0));
        refused("edge(0, 0, 10)", ARGUMENT, () -> g.edge(0, 0, 10));
        refused("edge(0, 0, -10)", ARGUMENT, () -> g.edge(0, 0, -10));
    }

    @Says("IllegalStateException: there are 24.")
    private static void promise3_vertices7DoNotMakeEdgesFull() {
        CreditGame g = full7WithoutEdges();
        refused("vertex(0)", STATE, () -> g.vertex(0));
        due("edge(6, 0, 1)", g.edge(6, 0, 1), 0);
    }

    @Says("IllegalStateException: there are 24.")
    private static void promise3_edges24DoNotMakeVerticesFull() {
        CreditGame g = game(players(0));
        for (int n = 0; n < 24; n++) {
            g.edge(0, 0, 0);
        }
        due("vertex(1)", g.vertex(1), 1);
        refused("credit(0), not complete any more", STATE, () -> g.credit(0));
        refused("edge(1, 0, 0)", STATE, () -> g.edge(1, 0, 0));
    }

    // Promise 4: fix

    @Says("IllegalArgumentException: there is no such vertex")
    private static void promise4_vertexTooSmall() {
        CreditGame g = full();
        for (int vertex : TOO_SMALL) {
            refused("fix(" + vertex + ", 0)", ARGUMENT, () -> g.fix(vertex, 0));
        }
    }

    @Says("IllegalArgumentException: there is no such vertex")
    private static void promise4_vertexTooLarge() {
        CreditGame g = full();
        for (int vertex : TOO_LARGE) {
            refused("fix(" + vertex + ", 0)", ARGUMENT, () -> g.fix(vertex, 0));
        }
    }

    @Says("IllegalArgumentException: there is no such vertex")
    private static void promise4_vertexNotMadeYet() {
        CreditGame g = small();
        refused("fix(2, 0)", ARGUMENT, () -> g.fix(2, 0));
        refused("fix(6, 0)", ARGUMENT, () -> g.fix(6, 0));
    }

    @Says("IllegalArgumentException: there is no such vertex")
    private static void promise4_noSuchVertexToFixToNone() {
        CreditGame g = small();
        refused("fix(2, NONE)", ARGUMENT, () -> g.fix(2, NONE));
        refused("fix(-1, NONE)", ARGUMENT, () -> g.fix(-1, NONE));
        refused("fix(7, NONE)", ARGUMENT, () -> g.fix(7, NONE));
        refused("new: fix(0, NONE)", ARGUMENT, () -> new CreditGame().fix(0, NONE));
    }

    @Says("IllegalArgumentException: there is no such .. edge from it")
    private static void promise4_edgeTooSmall() {
        CreditGame g = small();
        for (int edge : TOO_SMALL) {
            if (edge != NONE) {
                refused("fix(0, " + edge + ")", ARGUMENT, () -> g.fix(0, edge));
            }
        }
    }

    @Says("IllegalArgumentException: there is no such .. edge from it")
    private static void promise4_edgeTooLarge() {
        CreditGame g = full();
        for (int edge : new int[] {24, 25, 31, 32, 256, 65536, 1 << 30, Integer.MAX_VALUE}) {
            refused("fix(0, " + edge + ")", ARGUMENT, () -> g.fix(0, edge));
        }
    }

    @Says("IllegalArgumentException: there is no such .. edge from it")
    private static void promise4_edgeNotMadeYet() {
        CreditGame g = game(players(0));
        for (int n = 0; n < 24; n++) {
            int next = n;
            refused("fix(0, " + n + ") in front of it", ARGUMENT, () -> g.fix(0, next));
            g.edge(0, 0, 0);
            g.fix(0, next);
            due("fixed(0)", g.fixed(0), n);
        }
    }

    @Says("IllegalArgumentException: there is no such .. edge from it")
    private static void promise4_edgeFromAnother() {
        CreditGame g = full();
        for (int n = 0; n < 24; n++) {
            for (int v = 0; v < 7; v++) {
                int edge = n;
                int vertex = v;
                if (n % 7 != v) {
                    refused("fix(" + v + ", " + n + ")", ARGUMENT, () -> g.fix(vertex, edge));
                }
            }
        }
    }

    @Says("IllegalArgumentException: there is no such .. edge from it")
    private static void promise4_edgeToItIsNoneFromIt() {
        CreditGame g = game(players(0, 0), e(0, 1, 1), e(1, 0, 1));
        refused("fix(1, 0)", ARGUMENT, () -> g.fix(1, 0));
        refused("fix(0, 1)", ARGUMENT, () -> g.fix(0, 1));
    }

    @Says("A vertex is fixed to an edge")
    private static void promise4_theFirstAndTheLastEdge() {
        CreditGame g = full();
        g.fix(0, 0);
        g.fix(2, 23);
        due("fixed(0)", g.fixed(0), 0);
        due("fixed(2)", g.fixed(2), 23);
        due("best(0)", g.best(0), 0);
        due("best(2)", g.best(2), 23);
    }

    @Says("A vertex is fixed to an edge")
    private static void promise4_anotherEdgeTakesThePlace() {
        CreditGame g = small();
        g.fix(0, 0);
        g.fix(0, 3);
        due("fixed(0)", g.fixed(0), 3);
        value("by the edge 3", g, 0, 0, 1);
        g.fix(0, 3);
        due("fixed(0) behind the same fix", g.fixed(0), 3);
        g.fix(0, 0);
        value("by the edge 0", g, 0, -1, 1);
    }

    @Says("A vertex may be FIXED to one of the edges from it: then that alone leads from it, else all do.")
    private static void promise4_onlyThatEdgeLeads() {
        CreditGame g = small();
        g.fix(0, 0);
        value("player 0's vertex at a loss", g, 0, -1, 1);
        due("its credit", g.credit(0), NONE);
        due("its best edge", g.best(0), 0);
        walk("its walk", g, 0, 0, 1, -1, 0);
        g.fix(0, NONE);
        g.fix(1, 2);
        value("player 1's vertex at a loss", g, 1, 2, 1);
        due("its best edge", g.best(1), 2);
        value("and the other one", g, 0, 2, 1);
        due("best(0)", g.best(0), 3);
    }

    @Says("with NONE it is fixed to none")
    private static void promise4_noneFreesAFixedVertex() {
        CreditGame g = small();
        String free = told(g, 2);
        g.fix(0, 0);
        g.fix(0, NONE);
        due("the game", told(g, 2), free);
    }

    @Says("with NONE it is fixed to none")
    private static void promise4_noneForAFreeVertex() {
        CreditGame g = small();
        String free = told(g, 2);
        g.fix(0, NONE);
        g.fix(1, NONE);
        due("the game", told(g, 2), free);
    }

    @Says("with NONE it is fixed to none")
    private static void promise4_noneForAVertexWithoutEdges() {
        CreditGame g = game(players(1));
        g.fix(0, NONE);
        due("fixed(0)", g.fixed(0), NONE);
        refused("credit(0)", STATE, () -> g.credit(0));
    }

    @Says("with NONE it is fixed to none")
    private static void promise4_noneFreesThatVertexAlone() {
        CreditGame g = small();
        g.fix(0, 0);
        g.fix(1, 2);
        g.fix(0, NONE);
        due("fixed(0)", g.fixed(0), NONE);
        due("fixed(1)", g.fixed(1), 2);
    }

    @Says("IllegalArgumentException: there is no such vertex, or edge from it.")
    private static void promise4_aRefusedFixLeavesTheVertexFixed() {
        CreditGame g = small();
        g.fix(0, 3);
        String before = told(g, 2);
        refused("fix(0, 1)", ARGUMENT, () -> g.fix(0, 1));
        refused("fix(0, 4)", ARGUMENT, () -> g.fix(0, 4));
        refused("fix(0, -2)", ARGUMENT, () -> g.fix(0, -2));
        refused("fix(2, NONE)", ARGUMENT, () -> g.fix(2, NONE));
        due("the game", told(g, 2), before);
    }

    @Says("IllegalArgumentException: there is no such vertex, or edge from it.")
    private static void promise4_aRefusedFixLeavesTheVertexFree() {
        CreditGame g = small();
        String before = told(g, 2);
        refused("fix(1, 0)", ARGUMENT, () -> g.fix(1, 0));
        refused("fix(1, 4)", ARGUMENT, () -> g.fix(1, 4));
        refused("fix(1, 24)", ARGUMENT, () -> g.fix(1, 24));
        due("the game", told(g, 2), before);
    }

    @Says("void fix(int vertex, int edge) throws IllegalArgumentException")
    private static void promise4_aGameThatIsNotComplete() {
        CreditGame g = open();
        g.fix(0, 1);
        due("fixed(0)", g.fixed(0), 1);
        refused("fix(1, 1)", ARGUMENT, () -> g.fix(1, 1));
        g.fix(0, NONE);
        due("fixed(0) behind fix(0, NONE)", g.fixed(0), NONE);
    }

    // Promise 5: fixed

    @Says("NONE if it is to none")
    private static void promise5_noneForANewVertex() {
        CreditGame g = new CreditGame();
        for (int v = 0; v < 7; v++) {
            g.vertex(v % 2);
            due("fixed(" + v + ")", g.fixed(v), NONE);
        }
        due("NONE", NONE, -1);
    }

    @Says("NONE if it is to none")
    private static void promise5_noneForAVertexWithOneEdge() {
        CreditGame g = game(players(0), e(0, 0, 1));
        due("fixed(0)", g.fixed(0), NONE);
        g.credit(0);
        g.best(0);
        g.walk(0, 0);
        due("fixed(0) behind best(0)", g.fixed(0), NONE);
    }

    @Says("The edge to which a vertex is fixed")
    private static void promise5_theEdge0IsNotNone() {
        CreditGame g = small();
        g.fix(0, 0);
        due("fixed(0)", g.fixed(0), 0);
        due("fixed(1)", g.fixed(1), NONE);
    }

    @Says("The edge to which a vertex is fixed")
    private static void promise5_itStaysWhenTheGameGrows() {
        CreditGame g = small();
        g.fix(0, 0);
        due("edge(0, 0, 9)", g.edge(0, 0, 9), 4);
        due("vertex(0)", g.vertex(0), 2);
        due("fixed(0)", g.fixed(0), 0);
        g.edge(2, 2, 0);
        value("the new edge does not lead", g, 0, -1, 1);
    }

    @Says("The edge to which a vertex is fixed")
    private static void promise5_aGameThatIsNotComplete() {
        CreditGame g = open();
        due("fixed(1)", g.fixed(1), NONE);
        g.fix(0, 1);
        due("fixed(0)", g.fixed(0), 1);
    }

    @Says("IllegalArgumentException: there is no such vertex.")
    private static void promise5_vertexTooSmall() {
        CreditGame g = full();
        for (int vertex : TOO_SMALL) {
            refused("fixed(" + vertex + ")", ARGUMENT, () -> g.fixed(vertex));
        }
    }

    @Says("IllegalArgumentException: there is no such vertex.")
    private static void promise5_vertexTooLarge() {
        CreditGame g = full();
        for (int vertex : TOO_LARGE) {
            refused("fixed(" + vertex + ")", ARGUMENT, () -> g.fixed(vertex));
        }
    }

    @Says("IllegalArgumentException: there is no such vertex.")
    private static void promise5_vertexNotMadeYet() {
        CreditGame g = new CreditGame();
        for (int v = 0; v < 7; v++) {
            int next = v;
            refused("fixed(" + v + ")", ARGUMENT, () -> g.fixed(next));
            g.vertex(1);
        }
    }

    // Promise 6: credit

    @Says("the least whole number c, 0 or more")
    private static void promise6_theLeastCreditIs0() {
        due("a loop of 9", game(players(0), e(0, 0, 9)).credit(0), 0);
        due("a loop of 0", game(players(1), e(0, 0, 0)).credit(0), 0);
        CreditGame gain = game(players(0, 1), e(0, 1, 9), e(1, 0, -9));
        due("9 in front of -9", gain.credit(0), 0);
        due("-9 in front of 9", gain.credit(1), 9);
    }

    @Says("c and the weights that were gone by up to there are together never below 0")
    private static void promise6_theGreatestCreditIs54() {
        CreditGame g = line(-9, 0);
        for (int v = 0; v < 7; v++) {
            due("credit(" + v + ")", g.credit(v), 9 * (6 - v));
        }
    }

    @Says("c and the weights that were gone by up to there are together never below 0")
    private static void promise6_inBetweenCounts() {
        CreditGame g = ring(7, 9, -1);
        due("credit(0)", g.credit(0), 0);
        due("credit(1)", g.credit(1), 6);
        due("credit(6)", g.credit(6), 1);
        CreditGame dip = game(players(0, 1, 0), e(0, 1, 4), e(1, 2, -5), e(2, 0, 9));
        due("one below nothing", dip.credit(0), 1);
    }

    @Says("NONE (-1) if there is no such number.")
    private static void promise6_noneForALoopBelow0() {
        due("a loop of -1", game(players(0), e(0, 0, -1)).credit(0), NONE);
        due("a loop of -9", game(players(1), e(0, 0, -9)).credit(0), NONE);
        CreditGame g = ring(7, 9, -2);
        CreditGame still = ring(7, 6, -1);
        for (int v = 0; v < 7; v++) {
            due("a ring of -3: credit(" + v + ")", g.credit(v), NONE);
            due("a ring of 0: credit(" + v + ")", still.credit(v), (7 - v) % 7);
        }
    }

    @Says("NONE (-1) if there is no such number.")
    private static void promise6_noneThoughTheWayThereGains() {
        CreditGame g = line(9, -1);
        for (int v = 0; v < 7; v++) {
            due("credit(" + v + ")", g.credit(v), NONE);
        }
    }

    @Says("player 0 can choose so that, whatever player 1 does")
    private static void promise6_player0TakesTheCheaperWayPlayer1TheDearer() {
        CreditGame g = game(players(0, 1, 0, 0), e(0, 2, -5), e(0, 3, -6), e(1, 2, -5), e(1, 3, -6), e(2, 2, 0),
                e(3, 3, 0));
        due("player 0", g.credit(0), 5);
        due("player 1", g.credit(1), 6);
        g.edge(0, 0, -1);
        g.edge(1, 1, -1);
        due("player 0 need not lose for ever", g.credit(0), 5);
        due("player 1 may make player 0 lose for ever", g.credit(1), NONE);
    }

    @Says("IllegalArgumentException: there is no such vertex")
    private static void promise6_vertexTooSmall() {
        CreditGame g = full();
        for (int vertex : TOO_SMALL) {
            refused("credit(" + vertex + ")", ARGUMENT, () -> g.credit(vertex));
        }
    }

    @Says("IllegalArgumentException: there is no such vertex")
    private static void promise6_vertexTooLarge() {
        CreditGame g = full();
        for (int vertex : TOO_LARGE) {
            refused("credit(" + vertex + ")", ARGUMENT, () -> g.credit(vertex));
        }
        refused("credit(2) of two vertices", ARGUMENT, () -> small().credit(2));
    }

    @Says("IllegalStateException: the game is not complete.")
    private static void promise6_notComplete() {
        CreditGame g = open();
        refused("credit(0)", STATE, () -> g.credit(0));
        refused("credit(1)", STATE, () -> g.credit(1));
        refused("the last of seven has no edge", STATE, () -> lacking(6).credit(0));
        refused("the first of seven has no edge", STATE, () -> lacking(0).credit(6));
    }

    /** A ring of seven, but for one edge. */
    private static CreditGame lacking(int vertex) {
        CreditGame g = full7WithoutEdges();
        for (int v = 0; v < 7; v++) {
            if (v != vertex) {
                g.edge(v, (v + 1) % 7, 1);
            }
        }
        return g;
    }

    @Says("IllegalArgumentException: there is no such vertex; IllegalStateException: the game is not complete.")
    private static void promise6_noSuchVertexOfAGameThatIsNotComplete() {
        CreditGame g = open();
        refused("credit(2)", ARGUMENT, () -> g.credit(2));
        refused("credit(-1)", ARGUMENT, () -> g.credit(-1));
    }

    @Says("The game is COMPLETE if an edge leads from each vertex")
    private static void promise6_completeFromTheLastLackingEdgeOn() {
        for (int v = 0; v < 7; v++) {
            CreditGame g = lacking(v);
            int at = v;
            refused("credit(" + v + ")", STATE, () -> g.credit(at));
            g.edge(v, (v + 1) % 7, -6);
            due("credit(" + v + ") behind the edge", g.credit(v), 6);
            due("credit behind that edge", g.credit((v + 1) % 7), 0);
        }
    }

    @Says("An object is used for at most 512 calls after it has been made")
    private static void promise6_the512thCallAnswers() {
        CreditGame g = line(-9, 0);
        for (int call = 15; call < 512; call++) {
            due("call " + call, g.credit(call % 7), 9 * (6 - call % 7));
        }
        due("the 512th call", g.credit(0), 54);
    }

    // Promise 7: reaches

    /** A new game for each q, so that no object has more than 512 calls. */
    private static void reachesJustFrom(int length, int first, int others, int vertex) {
        int sum = first + others * (length - 1);
        for (int q = 1; q <= 9; q++) {
            CreditGame g = ring(length, first, others);
            for (int p = -99; p <= 99; p++) {
                due(sum + " / " + length + ": reaches(" + vertex + ", " + p + ", " + q + ")",
                        g.reaches(vertex, p, q), sum * q >= p * length);
            }
        }
    }

    @Says("Whether the value of a vertex is p / q, or greater.")
    private static void promise7_everyFractionAroundASeventh() {
        reachesJustFrom(7, 1, 0, 3);
        reachesJustFrom(7, -1, 0, 6);
    }

    @Says("Whether the value of a vertex is p / q, or greater.")
    private static void promise7_everyFractionAroundNothing() {
        reachesJustFrom(7, 6, -1, 0);
        reachesJustFrom(1, 0, 0, 0);
    }

    @Says("Whether the value of a vertex is p / q, or greater.")
    private static void promise7_everyFractionAroundTheGreatestAndTheLeast() {
        reachesJustFrom(1, 9, 9, 0);
        reachesJustFrom(1, -9, -9, 0);
        reachesJustFrom(7, 8, 9, 5);
        reachesJustFrom(7, -8, -9, 5);
    }

    @Says("Whether the value of a vertex is p / q, or greater.")
    private static void promise7_theValueItself() {
        CreditGame g = ring(2, -9, -8);
        due("-17 / 2", g.reaches(0, -17, 2), true);
        due("-34 / 4, the same", g.reaches(0, -34, 4), true);
        due("-68 / 8, the same", g.reaches(0, -68, 8), true);
        due("-76 / 9, the next above", g.reaches(0, -76, 9), false);
        due("-77 / 9, the next below", g.reaches(0, -77, 9), true);
    }

    @Says("or p is not -99 .. 99")
    private static void promise7_theLeastAndTheGreatestP() {
        CreditGame g = game(players(0), e(0, 0, 9));
        due("reaches(0, -99, 1)", g.reaches(0, -99, 1), true);
        due("reaches(0, -99, 9)", g.reaches(0, -99, 9), true);
        due("reaches(0, 99, 1)", g.reaches(0, 99, 1), false);
        due("reaches(0, 99, 9)", g.reaches(0, 99, 9), false);
    }

    @Says("or p is not -99 .. 99")
    private static void promise7_pTooSmall() {
        CreditGame g = small();
        for (int p : new int[] {-100, -101, -256, -65536, Integer.MIN_VALUE, Integer.MIN_VALUE + 99}) {
            refused("reaches(0, " + p + ", 1)", ARGUMENT, () -> g.reaches(0, p, 1));
            refused("reaches(0, " + p + ", 9)", ARGUMENT, () -> g.reaches(0, p, 9));
        }
    }

    @Says("or p is not -99 .. 99")
    private static void promise7_pTooLarge() {
        CreditGame g = small();
        for (int p : new int[] {100, 101, 256, 65536, Integer.MAX_VALUE, Integer.MAX_VALUE - 98}) {
            refused("reaches(0, " + p + ", 1)", ARGUMENT, () -> g.reaches(0, p, 1));
            refused("reaches(0, " + p + ", 9)", ARGUMENT, () -> g.reaches(0, p, 9));
        }
    }

    @Says("or q not 1 .. 9")
    private static void promise7_theLeastAndTheGreatestQ() {
        CreditGame g = game(players(1), e(0, 0, 1));
        due("reaches(0, 1, 1)", g.reaches(0, 1, 1), true);
        due("reaches(0, 2, 1)", g.reaches(0, 2, 1), false);
        due("reaches(0, 9, 9)", g.reaches(0, 9, 9), true);
        due("reaches(0, 10, 9)", g.reaches(0, 10, 9), false);
    }

    @Says("or q not 1 .. 9")
    private static void promise7_qTooSmall() {
        CreditGame g = small();
        for (int q : new int[] {0, -1, -9, -256, -65536, Integer.MIN_VALUE, Integer.MIN_VALUE + 1}) {
            refused("reaches(0, 0, " + q + ")", ARGUMENT, () -> g.reaches(0, 0, q));
        }
    }

    @Says("or q not 1 .. 9")
    private static void promise7_qTooLarge() {
        CreditGame g = small();
        for (int q : new int[] {10, 11, 257, 65537, Integer.MAX_VALUE}) {
            refused("reaches(0, 0, " + q + ")", ARGUMENT, () -> g.reaches(0, 0, q));
        }
    }

    @Says("IllegalArgumentException: there is no such vertex")
    private static void promise7_vertexTooSmall() {
        CreditGame g = full();
        for (int vertex : TOO_SMALL) {
            refused("reaches(" + vertex + ", 0, 1)", ARGUMENT, () -> g.reaches(vertex, 0, 1));
        }
    }

    @Says("IllegalArgumentException: there is no such vertex")
    private static void promise7_vertexTooLarge() {
        CreditGame g = full();
        for (int vertex : TOO_LARGE) {
            refused("reaches(" + vertex + ", 0, 1)", ARGUMENT, () -> g.reaches(vertex, 0, 1));
        }
        refused("reaches(2, 0, 1) of two vertices", ARGUMENT, () -> small().reaches(2, 0, 1));
    }

    @Says("IllegalStateException: the game is not complete.")
    private static void promise7_notComplete() {
        CreditGame g = open();
        refused("reaches(0, -99, 1)", STATE, () -> g.reaches(0, -99, 1));
        refused("reaches(1, 99, 1)", STATE, () -> g.reaches(1, 99, 1));
        refused("the last of seven has no edge", STATE, () -> lacking(6).reaches(0, 0, 1));
        refused("the first of seven has no edge", STATE, () -> lacking(0).reaches(6, 0, 1));
    }

    @Says("IllegalArgumentException: there is no such vertex, or p is not -99 .. 99, or q not 1 .. 9; IllegalStateException: the game is not complete.")
    private static void promise7_wrongArgumentsForAGameThatIsNotComplete() {
        CreditGame g = open();
        refused("reaches(2, 0, 1)", ARGUMENT, () -> g.reaches(2, 0, 1));
        refused("reaches(0, 100, 1)", ARGUMENT, () -> g.reaches(0, 100, 1));
        refused("reaches(0, -100, 1)", ARGUMENT, () -> g.reaches(0, -100, 1));
        refused("reaches(0, 0, 0)", ARGUMENT, () -> g.reaches(0, 0, 0));
        refused("reaches(0, 0, 10)", ARGUMENT, () -> g.reaches(0, 0, 10));
    }

    // Promise 8: value

    @Says("a fraction whose denominator is not above the number of vertices")
    private static void promise8_everyDenominatorFrom1To7() {
        for (int length = 1; length <= 7; length++) {
            CreditGame above = ring(length, 1, 0);
            CreditGame below = ring(length, -1, 0);
            for (int v = 0; v < length; v++) {
                value("1 in a ring of " + length, above, v, 1, length);
                value("-1 in a ring of " + length, below, v, -1, length);
            }
        }
    }

    @Says("It is told in lowest terms, the denominator above 0.")
    private static void promise8_everySumInLowestTerms() {
        for (int length = 1; length <= 7; length++) {
            for (int sum = -9; sum <= 9; sum++) {
                int part = greatestCommon(Math.abs(sum), length);
                value(sum + " in a ring of " + length, ring(length, sum, 0), length - 1, sum / part, length / part);
            }
        }
    }

    private static int greatestCommon(int a, int b) {
        return b == 0 ? a : greatestCommon(b, a % b);
    }

    @Says("It is told in lowest terms, the denominator above 0.")
    private static void promise8_nothingIs0By1() {
        for (int length = 2; length <= 7; length++) {
            value("a ring of " + length, ring(length, length - 1, -1), 0, 0, 1);
        }
        value("a loop of nothing", ring(1, 0, 0), 0, 0, 1);
    }

    @Says("It is told in lowest terms, the denominator above 0.")
    private static void promise8_theGreatestAndTheLeast() {
        value("9 by 1", ring(7, 9, 9), 3, 9, 1);
        value("-9 by 1", ring(7, -9, -9), 3, -9, 1);
        value("the next below 9", ring(7, 8, 9), 3, 62, 7);
        value("the next above -9", ring(7, -8, -9), 3, -62, 7);
    }

    @Says("player 0 can choose so that, whatever player 1 does")
    private static void promise8_aSeventhAgainstASixth() {
        for (int player = 0; player < 2; player++) {
            CreditGame g = new CreditGame();
            for (int v = 0; v < 7; v++) {
                g.vertex(player);
            }
            for (int v = 0; v < 7; v++) {
                g.edge(v, (v + 1) % 7, v == 0 ? 1 : 0);
            }
            g.edge(5, 0, 0);
            value("the player " + player, g, 0, 1, player == 0 ? 6 : 7);
        }
    }

    @Says("IllegalArgumentException: there is no such vertex")
    private static void promise8_vertexTooSmall() {
        CreditGame g = full();
        for (int vertex : TOO_SMALL) {
            refused("value(" + vertex + ", false)", ARGUMENT, () -> g.value(vertex, false));
            refused("value(" + vertex + ", true)", ARGUMENT, () -> g.value(vertex, true));
        }
    }

    @Says("IllegalArgumentException: there is no such vertex")
    private static void promise8_vertexTooLarge() {
        CreditGame g = full();
        for (int vertex : TOO_LARGE) {
            refused("value(" + vertex + ", false)", ARGUMENT, () -> g.value(vertex, false));
            refused("value(" + vertex + ", true)", ARGUMENT, () -> g.value(vertex, true));
        }
        refused("value(2, true) of two vertices", ARGUMENT, () -> small().value(2, true));
    }

    @Says("IllegalStateException: the game is not complete.")
    private static void promise8_notComplete() {
        CreditGame g = open();
        refused("value(0, false)", STATE, () -> g.value(0, false));
        refused("value(0, true)", STATE, () -> g.value(0, true));
        refused("value(1, false)", STATE, () -> g.value(1, false));
        refused("the last of seven has no edge", STATE, () -> lacking(6).value(0, false));
        refused("the first of seven has no edge", STATE, () -> lacking(0).value(6, true));
    }

    @Says("IllegalStateException: the game is not complete.")
    private static void promise8_notCompleteAnyMore() {
        CreditGame g = small();
        value("complete", g, 0, 0, 1);
        g.vertex(0);
        refused("value(0, false)", STATE, () -> g.value(0, false));
        g.edge(2, 0, 0);
        value("complete again", g, 2, 0, 1);
    }

    @Says("IllegalArgumentException: there is no such vertex; IllegalStateException: the game is not complete.")
    private static void promise8_noSuchVertexOfAGameThatIsNotComplete() {
        CreditGame g = open();
        refused("value(2, false)", ARGUMENT, () -> g.value(2, false));
        refused("value(-1, true)", ARGUMENT, () -> g.value(-1, true));
    }

    // Promise 9: best

    @Says("Of the edges that lead from v, the first one")
    private static void promise9_theFirstOfThoseThatAreTheSame() {
        for (int player = 0; player < 2; player++) {
            CreditGame g = game(players(player, 0), e(1, 1, 4));
            for (int n = 1; n < 24; n++) {
                g.edge(0, 1, 0);
            }
            due("of the player " + player, g.best(0), 1);
        }
    }

    @Says("Of the edges that lead from v, the first one")
    private static void promise9_theLastIfNoOtherWillDo() {
        for (int player = 0; player < 2; player++) {
            CreditGame g = game(players(player));
            for (int n = 0; n < 24; n++) {
                g.edge(0, 0, (n < 23) == (player == 0) ? -9 : -8);
            }
            due("of the player " + player, g.best(0), 23);
        }
    }

    @Says("such that u has a credit in that game")
    private static void promise9_notToWhereThereIsNoCredit() {
        CreditGame g = game(players(0, 1, 0, 0), e(0, 2, 9), e(0, 3, -9), e(1, 3, -9), e(1, 2, 9), e(2, 2, 0),
                e(3, 3, 1));
        due("player 0", g.best(0), 1);
        due("player 1", g.best(1), 3);
    }

    @Says("such that u has a credit in that game")
    private static void promise9_theOtherPlayerMayLeadToABetterValueByADearEdge() {
        CreditGame g = game(players(0, 1, 0, 0), e(0, 1, 0), e(0, 3, -3), e(1, 1, 0), e(1, 2, -9), e(2, 2, 1),
                e(3, 3, 0));
        due("player 0: credit(1)", g.credit(1), 9);
        due("player 0: best(0)", g.best(0), 1);
        CreditGame player1 = game(players(1, 0, 0, 0), e(0, 1, 0), e(0, 3, 3), e(1, 1, 0), e(1, 2, 9), e(2, 2, -1),
                e(3, 3, 0));
        due("player 1: best(0)", player1.best(0), 1);
    }

    @Says("v's credit there and the edge's weight there are together not less than u's.")
    private static void promise9_justEnoughIsEnough() {
        CreditGame g = game(players(0, 0, 0), e(0, 1, -3), e(1, 2, -2), e(2, 2, 0));
        due("5 - 3 is 2: best(0)", g.best(0), 0);
        CreditGame two = game(players(0, 0, 0), e(0, 1, -3), e(0, 2, -5), e(1, 2, -2), e(2, 2, 0));
        due("5 - 3 is 2, 5 - 5 is 0: best(0)", two.best(0), 0);
        CreditGame turned = game(players(0, 0, 0), e(0, 2, -5), e(0, 1, -3), e(1, 2, -2), e(2, 2, 0));
        due("the other one first: best(0)", turned.best(0), 0);
        CreditGame player1 = game(players(1, 1, 1), e(0, 2, 5), e(0, 1, 3), e(1, 2, 2), e(2, 2, 0));
        due("player 1: best(0)", player1.best(0), 0);
    }

    @Says("v's credit there and the edge's weight there are together not less than u's.")
    private static void promise9_oneTooLittleIsNotEnough() {
        CreditGame g = game(players(0, 0, 0), e(0, 1, -4), e(0, 2, -5), e(1, 2, -2), e(2, 2, 0));
        due("5 - 4 is below 2: best(0)", g.best(0), 1);
        CreditGame turned = game(players(0, 0, 0), e(0, 2, -6), e(0, 1, -3), e(1, 2, -2), e(2, 2, 0));
        due("5 - 6 is below 0: best(0)", turned.best(0), 1);
        CreditGame player1 = game(players(1, 1, 1), e(0, 2, 6), e(0, 1, 3), e(1, 2, 2), e(2, 2, 0));
        due("player 1: best(0)", player1.best(0), 1);
    }

    @Says("v's credit there and the edge's weight there are together not less than u's.")
    private static void promise9_moreThanEnoughIsEnough() {
        CreditGame g = game(players(0, 1, 0), e(0, 2, 1), e(0, 2, 9), e(1, 2, -1), e(1, 2, -9), e(2, 2, 0));
        due("player 0", g.best(0), 0);
        due("player 1", g.best(1), 2);
    }

    @Says("let each edge have the weight q * w - p")
    private static void promise9_theFractionIsTakenFromEachWeight() {
        CreditGame g = game(players(0, 1, 0), e(0, 1, 1), e(0, 2, 0), e(1, 0, 0), e(2, 0, 1));
        value("a half", g, 0, 1, 2);
        due("2 * 1 - 1 is enough, 2 * 0 - 1 is not: best(0)", g.best(0), 0);
        CreditGame turned = game(players(0, 1, 0), e(0, 2, 0), e(0, 1, 1), e(1, 0, 0), e(2, 0, 1));
        due("the other one first: best(0)", turned.best(0), 1);
        CreditGame player1 = game(players(1, 0, 1), e(0, 2, 1), e(0, 1, 0), e(1, 0, 1), e(2, 0, 0));
        value("a half of player 1", player1, 0, 1, 2);
        due("player 1: best(0)", player1.best(0), 1);
    }

    @Says("Of the edges that lead from v")
    private static void promise9_aFixedVertexHasThatEdge() {
        CreditGame g = game(players(0, 1), e(0, 0, 9), e(0, 0, -9), e(1, 1, -9), e(1, 1, 9));
        g.fix(0, 1);
        g.fix(1, 3);
        due("best(0)", g.best(0), 1);
        due("best(1)", g.best(1), 3);
        g.fix(0, NONE);
        g.fix(1, NONE);
        due("free: best(0)", g.best(0), 0);
        due("free: best(1)", g.best(1), 2);
    }

    @Says("Nothing is promised beyond the answers and state changes described above")
    private static void promise9_askingChangesNothing() {
        CreditGame g = full();
        String before = told(g, 7);
        due("asked again", told(g, 7), before);
        for (int v = 0; v < 7; v++) {
            due("fixed(" + v + ")", g.fixed(v), NONE);
        }
    }

    @Says("IllegalArgumentException: there is no such vertex")
    private static void promise9_vertexTooSmall() {
        CreditGame g = full();
        for (int vertex : TOO_SMALL) {
            refused("best(" + vertex + ")", ARGUMENT, () -> g.best(vertex));
        }
    }

    @Says("IllegalArgumentException: there is no such vertex")
    private static void promise9_vertexTooLarge() {
        CreditGame g = full();
        for (int vertex : TOO_LARGE) {
            refused("best(" + vertex + ")", ARGUMENT, () -> g.best(vertex));
        }
        refused("best(2) of two vertices", ARGUMENT, () -> small().best(2));
    }

    @Says("IllegalStateException: the game is not complete.")
    private static void promise9_notComplete() {
        CreditGame g = open();
        refused("best(0)", STATE, () -> g.best(0));
        refused("best(1)", STATE, () -> g.best(1));
        g.fix(0, 0);
        refused("best(0), fixed", STATE, () -> g.best(0));
        refused("the last of seven has no edge", STATE, () -> lacking(6).best(0));
        refused("the first of seven has no edge", STATE, () -> lacking(0).best(6));
    }

    @Says("IllegalArgumentException: there is no such vertex; IllegalStateException: the game is not complete.")
    private static void promise9_noSuchVertexOfAGameThatIsNotComplete() {
        CreditGame g = open();
        refused("best(2)", ARGUMENT, () -> g.best(2));
        refused("best(-1)", ARGUMENT, () -> g.best(-1));
    }

    // Promise 10: settle

    @Says("how many were fixed")
    private static void promise10_noneOfAPlayerWithoutVertices() {
        CreditGame g = game(players(0, 0), e(0, 1, 1), e(1, 0, 1));
        due("settle(1)", g.settle(1), 0);
        due("fixed(0)", g.fixed(0), NONE);
        due("fixed(1)", g.fixed(1), NONE);
    }

    @Says("how many were fixed")
    private static void promise10_allSevenOfAPlayer() {
        for (int player = 0; player < 2; player++) {
            CreditGame g = new CreditGame();
            for (int v = 0; v < 7; v++) {
                g.vertex(player);
                g.edge(v, v, v);
                g.edge(v, v, v + 1);
            }
            due("settle of the other player", g.settle(1 - player), 0);
            due("settle(" + player + ")", g.settle(player), 7);
            for (int v = 0; v < 7; v++) {
                due("fixed(" + v + ")", g.fixed(v), player == 0 ? 2 * v + 1 : 2 * v);
            }
        }
    }

    @Says("Every vertex is fixed .. (and is not fixed yet)")
    private static void promise10_theSecondTimeNone() {
        CreditGame g = full();
        due("settle(0)", g.settle(0), 4);
        String before = told(g, 7);
        due("settle(0) again", g.settle(0), 0);
        due("the game", told(g, 7), before);
        due("settle(1)", g.settle(1), 3);
        due("settle(1) again", g.settle(1), 0);
        due("settle(0) once more", g.settle(0), 0);
    }

    @Says("Every vertex is fixed to its best edge .. (and is not fixed yet)")
    private static void promise10_whatIsFixedStaysThoughItIsNotBest() {
        CreditGame g = game(players(0, 0), e(0, 0, 9), e(0, 0, -9), e(1, 1, -9), e(1, 1, 9));
        g.fix(0, 1);
        due("settle(0)", g.settle(0), 1);
        due("fixed(0)", g.fixed(0), 1);
        due("fixed(1)", g.fixed(1), 3);
        g.fix(0, NONE);
        due("settle(0) behind fix(0, NONE)", g.settle(0), 1);
        due("fixed(0) then", g.fixed(0), 0);
    }

    @Says("Every vertex is fixed .. (and is not fixed yet)")
    private static void promise10_aVertexFixedToTheEdge0IsFixed() {
        CreditGame g = game(players(0), e(0, 0, -1), e(0, 0, 1));
        g.fix(0, 0);
        due("settle(0)", g.settle(0), 0);
        due("fixed(0)", g.fixed(0), 0);
    }

    @Says("Every vertex is fixed to its best edge if it belongs to a player")
    private static void promise10_aVertexWithOneEdgeIsFixedToo() {
        CreditGame g = ring(7, 1, 0);
        due("settle(0)", g.settle(0), 4);
        due("settle(1)", g.settle(1), 3);
        for (int v = 0; v < 7; v++) {
            due("fixed(" + v + ")", g.fixed(v), v);
        }
    }

    @Says("those of the other player stay as they are")
    private static void promise10_theOtherPlayersStayFreeOrFixed() {
        for (int player = 0; player < 2; player++) {
            int other = 1 - player;
            CreditGame g = game(players(player, other, other), e(0, 0, 1), e(1, 1, 9), e(1, 1, -9), e(2, 2, 9),
                    e(2, 2, -9));
            int worst = player == 0 ? 1 : 2;
            g.fix(1, worst);
            due("settle(" + player + ")", g.settle(player), 1);
            due("fixed(0)", g.fixed(0), 0);
            due("fixed(1)", g.fixed(1), worst);
            due("fixed(2)", g.fixed(2), NONE);
        }
    }

    @Says("for each vertex an edge that is best whatever the other player does")
    private static void promise10_settlingChangesNoValue() {
        CreditGame g = full();
        int[] tops = new int[7];
        int[] bottoms = new int[7];
        for (int v = 0; v < 7; v++) {
            tops[v] = g.value(v, false);
            bottoms[v] = g.value(v, true);
        }
        for (int player = 0; player < 2; player++) {
            g.settle(player);
            for (int v = 0; v < 7; v++) {
                value("behind settle(" + player + ")", g, v, tops[v], bottoms[v]);
            }
        }
    }

    @Says("IllegalArgumentException: player is not 0 or 1")
    private static void promise10_playerTooSmall() {
        CreditGame g = small();
        for (int player : TOO_SMALL) {
            refused("settle(" + player + ")", ARGUMENT, () -> g.settle(player));
        }
        due("fixed(0)", g.fixed(0), NONE);
        due("fixed(1)", g.fixed(1), NONE);
    }

    @Says("IllegalArgumentException: player is not 0 or 1")
    private static void promise10_playerTooLarge() {
        CreditGame g = small();
        for (int player : new int[] {2, 3, 256, 257, 65536, 65537, Integer.MAX_VALUE}) {
            refused("settle(" + player + ")", ARGUMENT, () -> g.settle(player));
        }
        due("fixed(0)", g.fixed(0), NONE);
        due("fixed(1)", g.fixed(1), NONE);
    }

    @Says("IllegalStateException: the game is not complete.")
    private static void promise10_notComplete() {
        refused("no vertex: settle(0)", STATE, () -> new CreditGame().settle(0));
        refused("no vertex: settle(1)", STATE, () -> new CreditGame().settle(1));
        for (int v = 0; v < 7; v++) {
            CreditGame g = lacking(v);
            refused("no edge from " + v + ": settle(0)", STATE, () -> g.settle(0));
            refused("no edge from " + v + ": settle(1)", STATE, () -> g.settle(1));
        }
    }

    @Says("IllegalStateException: the game is not complete.")
    private static void promise10_notCompleteAndAllOfThePlayerFixed() {
        CreditGame g = open();
        g.fix(0, 0);
        refused("settle(0)", STATE, () -> g.settle(0));
        CreditGame lone = game(players(0));
        refused("a player without vertices: settle(1)", STATE, () -> lone.settle(1));
    }

    @Says("IllegalStateException: the game is not complete.")
    private static void promise10_aRefusedSettleFixesNothing() {
        CreditGame g = lacking(6);
        refused("settle(0)", STATE, () -> g.settle(0));
        refused("settle(1)", STATE, () -> g.settle(1));
        refused("settle(2)", ARGUMENT, () -> g.settle(2));
        for (int v = 0; v < 7; v++) {
            due("fixed(" + v + ")", g.fixed(v), NONE);
        }
    }

    @Says("IllegalArgumentException: player is not 0 or 1; IllegalStateException: the game is not complete.")
    private static void promise10_aWrongPlayerOfAGameThatIsNotComplete() {
        refused("no vertex: settle(2)", ARGUMENT, () -> new CreditGame().settle(2));
        refused("no edge: settle(-1)", ARGUMENT, () -> open().settle(-1));
    }

    // Promise 11: walk

    @Says("what 0: how many edges in front of its loop; 1: how many in the loop")
    private static void promise11_noEdgeInFrontOfALoopOfOne() {
        walk("player 0", game(players(0), e(0, 0, -9), e(0, 0, 9)), 0, 0, 1, 9, 0);
        walk("player 1", game(players(1), e(0, 0, 9), e(0, 0, -9)), 0, 0, 1, -9, 0);
    }

    @Says("what 0: how many edges in front of its loop; 1: how many in the loop")
    private static void promise11_sixEdgesInFrontOfALoopOfOne() {
        CreditGame g = line(9, -9);
        for (int v = 0; v < 7; v++) {
            walk("the line", g, v, 6 - v, 1, -9, 6);
        }
    }

    @Says("1: how many in the loop")
    private static void promise11_aLoopOfAllSeven() {
        CreditGame g = ring(7, 4, -1);
        for (int v = 0; v < 7; v++) {
            walk("the ring", g, v, 0, 7, -2, v);
        }
    }

    @Says("2: the sum of their weights")
    private static void promise11_theGreatestAndTheLeastSum() {
        walk("seven of 9", ring(7, 9, 9), 2, 0, 7, 63, 2);
        walk("seven of -9", ring(7, -9, -9), 2, 0, 7, -63, 2);
    }

    @Says("2: the sum of their weights")
    private static void promise11_theWayInFrontIsNotInTheSum() {
        CreditGame g = game(players(0, 1, 0, 1), e(0, 1, 9), e(1, 2, 9), e(2, 3, 1), e(3, 2, -3));
        walk("two in front", g, 0, 2, 2, -2, 2);
        walk("one in front", g, 1, 1, 2, -2, 2);
        walk("none in front", g, 2, 0, 2, -2, 2);
        walk("none in front", g, 3, 0, 2, -2, 3);
    }

    @Says("3: the first vertex of the loop")
    private static void promise11_theVertexThatComesForTheSecondTime() {
        for (int back = 0; back < 7; back++) {
            CreditGame g = full7WithoutEdges();
            for (int v = 0; v < 6; v++) {
                g.edge(v, v + 1, 1);
            }
            g.edge(6, back, 1);
            for (int v = 0; v < 7; v++) {
                walk("back to " + back, g, v, Math.max(0, back - v), 7 - back, 7 - back, Math.max(v, back));
            }
        }
    }

    @Says("THE WALK from a vertex goes by best edges, of both players")
    private static void promise11_byTheFixedEdge() {
        CreditGame g = small();
        walk("free", g, 0, 0, 2, 0, 0);
        g.fix(1, 2);
        walk("fixed to the loop", g, 0, 1, 1, 2, 1);
        g.fix(0, 0);
        walk("both fixed", g, 0, 0, 1, -1, 0);
        g.fix(1, 1);
        walk("fixed to the way there", g, 1, 1, 1, -1, 0);
    }

    @Says("(Their average weight is the value.)")
    private static void promise11_theLoopsAverageIsTheValue() {
        CreditGame g = full();
        for (int v = 0; v < 7; v++) {
            due("the sum by the value's denominator, from " + v, g.walk(v, 2) * g.value(v, true),
                    g.value(v, false) * g.walk(v, 1));
        }
    }

    @Says("IllegalArgumentException: there is no such .. what")
    private static void promise11_whatTooSmall() {
        CreditGame g = small();
        for (int what : TOO_SMALL) {
            refused("walk(0, " + what + ")", ARGUMENT, () -> g.walk(0, what));
        }
    }

    @Says("IllegalArgumentException: there is no such .. what")
    private static void promise11_whatTooLarge() {
        CreditGame g = small();
        for (int what : new int[] {4, 5, 7, 8, 256, 65536, Integer.MAX_VALUE}) {
            refused("walk(0, " + what + ")", ARGUMENT, () -> g.walk(0, what));
        }
    }

    @Says("IllegalArgumentException: there is no such vertex")
    private static void promise11_vertexTooSmall() {
        CreditGame g = full();
        for (int vertex : TOO_SMALL) {
            for (int what = 0; what < 4; what++) {
                int w = what;
                refused("walk(" + vertex + ", " + w + ")", ARGUMENT, () -> g.walk(vertex, w));
            }
        }
    }

    @Says("IllegalArgumentException: there is no such vertex")
    private static void promise11_vertexTooLarge() {
        CreditGame g = full();
        for (int vertex : TOO_LARGE) {
            for (int what = 0; what < 4; what++) {
                int w = what;
                refused("walk(" + vertex + ", " + w + ")", ARGUMENT, () -> g.walk(vertex, w));
            }
        }
        refused("walk(2, 0) of two vertices", ARGUMENT, () -> small().walk(2, 0));
    }

    @Says("IllegalStateException: the game is not complete.")
    private static void promise11_notComplete() {
        CreditGame g = open();
        for (int what = 0; what < 4; what++) {
            int w = what;
            refused("walk(0, " + w + ")", STATE, () -> g.walk(0, w));
            refused("walk(1, " + w + ")", STATE, () -> g.walk(1, w));
        }
        refused("the last of seven has no edge", STATE, () -> lacking(6).walk(0, 0));
        refused("the first of seven has no edge", STATE, () -> lacking(0).walk(6, 3));
    }

    @Says("IllegalArgumentException: there is no such vertex, or what; IllegalStateException: the game is not complete.")
    private static void promise11_wrongArgumentsForAGameThatIsNotComplete() {
        CreditGame g = open();
        refused("walk(2, 0)", ARGUMENT, () -> g.walk(2, 0));
        refused("walk(-1, 0)", ARGUMENT, () -> g.walk(-1, 0));
        refused("walk(0, 4)", ARGUMENT, () -> g.walk(0, 4));
        refused("walk(0, -1)", ARGUMENT, () -> g.walk(0, -1));
    }
}
