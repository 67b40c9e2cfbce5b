import java.lang.annotation.Retention;
import java.lang.annotation.RetentionPolicy;
import java.lang.reflect.InvocationTargetException;
import java.lang.reflect.Method;
import java.util.Arrays;
import java.util.Comparator;
import java.util.List;
import java.util.Random;
import java.util.stream.Collectors;

/**
 * The sentences of "What it is", "Terms" and "Not promised" that tell what the answers mean, each with a
 * test of its own: the answers are held against plays that are gone through edge by edge.
 */
public final class TermsTest {
    private static final int NONE = CreditGame.NONE;
    private static final int GAMES = 250;
    private static final int CALLS = 512;

    /** No credit is above six edges of -9. */
    private static final int MOST_CREDIT = 54;

    /** So long that a loss of 1 in seven edges goes below nothing from any credit that is told. */
    private static final int LONG = 2000;

    /** So long that what is added by the way to the loop, at most SLACK, can't hide another fraction. */
    private static final int VERY_LONG = 11000;

    /** Two times seven edges of 9: how far a play of n edges may be from n times the value. */
    private static final int SLACK = 126;

    private static int wrong = 0;
    private static String running = "";

    /** The sentence of the document that a test holds to. */
    @Retention(RetentionPolicy.RUNTIME)
    private @interface Says {
        String value();
    }

    public static void main(String[] args) throws IllegalAccessException {
        List<Method> tests = Arrays.stream(TermsTest.class.getDeclaredMethods())
                .filter(m -> m.isAnnotationPresent(Says.class))
                .sorted(Comparator.comparing(Method::getName))
                .collect(Collectors.toList());
        for (Method test : tests) {
            run(test);
        }
        if (wrong > 0) {
            System.out.println(wrong + " wrong answers");
            System.exit(1);
        }
        System.out.println(tests.size() + " tests of the terms hold");
    }

    private static void run(Method test) throws IllegalAccessException {
        running = test.getName() + " (\"" + test.getAnnotation(Says.class).value() + "\")";
        try {
            test.invoke(null);
        } catch (InvocationTargetException e) {
            tell("a call threw " + e.getCause());
        }
    }

    private static void tell(String what) {
        wrong++;
        System.out.println(running + ": " + what);
    }

    private static void due(String what, int got, int want) {
        if (got != want) {
            tell(what + " is " + got + ", due is " + want);
        }
    }

    private static void due(String what, boolean holds) {
        if (!holds) {
            tell(what);
        }
    }

    private static int greatestCommon(int a, int b) {
        return b == 0 ? Math.abs(a) : greatestCommon(b, a % b);
    }

    /** A complete game, kept beside the object so that plays can be gone through. */
    private static final class Board {
        final CreditGame game = new CreditGame();
        final int vertices;
        final int edges;
        final int[] player = new int[7];
        final int[] from = new int[24];
        final int[] to = new int[24];
        final int[] weight = new int[24];

        Board(int seed) {
            Random random = new Random(seed);
            vertices = 1 + seed % 7;
            edges = Math.min(24, vertices + random.nextInt(3 * vertices + 1));
            int heaviest = 1 + random.nextInt(9);
            for (int v = 0; v < vertices; v++) {
                player[v] = random.nextInt(2);
                game.vertex(player[v]);
            }
            for (int e = 0; e < edges; e++) {
                from[e] = e < vertices ? e : random.nextInt(vertices);
                to[e] = random.nextInt(vertices);
                weight[e] = random.nextInt(2 * heaviest + 1) - heaviest;
                game.edge(from[e], to[e], weight[e]);
            }
            for (int e = 0; e < edges; e++) {
                if (random.nextInt(12) == 0) {
                    game.fix(from[e], e);
                }
            }
        }

        /** The players change places and every weight its sign. */
        CreditGame turned() {
            CreditGame g = new CreditGame();
            for (int v = 0; v < vertices; v++) {
                g.vertex(1 - player[v]);
            }
            for (int e = 0; e < edges; e++) {
                g.edge(from[e], to[e], -weight[e]);
            }
            for (int v = 0; v < vertices; v++) {
                g.fix(v, game.fixed(v));
            }
            return g;
        }

        int[] fixed() {
            int[] fixed = new int[vertices];
            for (int v = 0; v < vertices; v++) {
                fixed[v] = game.fixed(v);
            }
            return fixed;
        }

        boolean leads(int e, int[] fixed) {
            return fixed[from[e]] == NONE || fixed[from[e]] == e;
        }

        /** The least credits with which player 0 comes through a play of so many edges. */
        int[] creditsFor(int length) {
            int[] fixed = fixed();
            int[] need = new int[vertices];
            for (int n = 0; n < length; n++) {
                int[] before = new int[vertices];
                Arrays.fill(before, NONE);
                for (int e = 0; e < edges; e++) {
                    int v = from[e];
                    int one = Math.max(0, need[to[e]] - weight[e]);
                    boolean takes = player[v] == 0 ? one < before[v] : one > before[v];
                    if (leads(e, fixed) && (before[v] == NONE || takes)) {
                        before[v] = one;
                    }
                }
                need = before;
            }
            return need;
        }

        /** The sums of weights in plays of so many edges in which both players look at the sum alone. */
        int[] sumsOf(int length) {
            int[] fixed = fixed();
            int[] sum = new int[vertices];
            for (int n = 0; n < length; n++) {
                int[] before = new int[vertices];
                boolean[] seen = new boolean[vertices];
                for (int e = 0; e < edges; e++) {
                    int v = from[e];
                    int one = sum[to[e]] + weight[e];
                    boolean takes = player[v] == 0 ? one > before[v] : one < before[v];
                    if (leads(e, fixed) && (!seen[v] || takes)) {
                        before[v] = one;
                        seen[v] = true;
                    }
                }
                sum = before;
            }
            return sum;
        }

        int[] tops() {
            int[] tops = new int[vertices];
            for (int v = 0; v < vertices; v++) {
                tops[v] = game.value(v, false);
            }
            return tops;
        }

        int[] bottoms() {
            int[] bottoms = new int[vertices];
            for (int v = 0; v < vertices; v++) {
                bottoms[v] = game.value(v, true);
            }
            return bottoms;
        }
    }

    @Says("the least credit with which player 0 never comes below nothing")
    private static void whatItIs_aPlayWithTheCreditNeverComesBelowNothing() {
        Random random = new Random(1);
        for (int seed = 0; seed < GAMES; seed++) {
            Board b = new Board(seed);
            int[] fixed = b.fixed();
            int[] credit = new int[b.vertices];
            for (int v = 0; v < b.vertices; v++) {
                credit[v] = b.game.credit(v);
            }
            for (int v = 0; v < b.vertices; v++) {
                if (credit[v] != NONE) {
                    play(b, fixed, credit, v, random);
                }
            }
        }
    }

    /** Player 1 plays anyhow, player 0 by any edge behind which the credit is still enough. */
    private static void play(Board b, int[] fixed, int[] credit, int start, Random random) {
        int at = start;
        int have = credit[start];
        for (int n = 0; n < 200; n++) {
            int taken = NONE;
            int shift = random.nextInt(b.edges);
            for (int k = 0; k < b.edges && taken == NONE; k++) {
                int e = (k + shift) % b.edges;
                boolean enough = credit[b.to[e]] != NONE && have + b.weight[e] >= credit[b.to[e]];
                if (b.from[e] == at && b.leads(e, fixed) && (b.player[at] == 1 || enough)) {
                    taken = e;
                }
            }
            if (taken == NONE) {
                tell("from " + start + " with " + credit[start] + ": no way on from " + at + " with " + have);
                return;
            }
            have += b.weight[taken];
            at = b.to[taken];
            if (have < 0) {
                tell("from " + start + " with " + credit[start] + ": at " + at + " with " + have);
                return;
            }
        }
    }

    @Says("THE CREDIT of a vertex is the least whole number c, 0 or more, such that .. never below 0; NONE (-1)")
    private static void terms_theCreditIsTheLeastForAPlayOfAnyLength() {
        for (int seed = 0; seed < GAMES; seed++) {
            Board b = new Board(seed);
            int[] need = b.creditsFor(LONG);
            for (int v = 0; v < b.vertices; v++) {
                int want = need[v] > MOST_CREDIT ? NONE : need[v];
                due("game " + seed + ": credit(" + v + ")", b.game.credit(v), want);
            }
        }
    }

    /** Both terms together: there is a credit just if player 0 need not lose in the long run. */
    @Says("THE CREDIT .. NONE (-1) if there is no such number. THE VALUE .. is the greatest number x")
    private static void terms_aCreditJustWhereTheValueIsNotBelow0() {
        for (int seed = 0; seed < GAMES; seed++) {
            Board b = new Board(seed);
            for (int v = 0; v < b.vertices; v++) {
                boolean has = b.game.credit(v) != NONE;
                due("game " + seed + ": reaches(" + v + ", 0, 1) is not " + has, b.game.reaches(v, 0, 1) == has);
            }
        }
    }

    @Says("the limit (the lower one) of the average weight of the first n edges is not below x")
    private static void terms_theValueIsTheAverageOfAVeryLongPlay() {
        for (int seed = 0; seed < GAMES; seed++) {
            Board b = new Board(seed);
            int[] sums = b.sumsOf(VERY_LONG);
            for (int v = 0; v < b.vertices; v++) {
                int p = b.game.value(v, false);
                int q = b.game.value(v, true);
                int off = Math.abs(sums[v] * q - VERY_LONG * p);
                due("game " + seed + ": value of " + v + " is not " + p + " / " + q, off <= SLACK * q);
            }
        }
    }

    @Says("It is a fraction whose denominator is not above the number of vertices .. in lowest terms .. above 0.")
    private static void terms_theFraction() {
        for (int seed = 0; seed < GAMES; seed++) {
            Board b = new Board(seed);
            for (int v = 0; v < b.vertices; v++) {
                int p = b.game.value(v, false);
                int q = b.game.value(v, true);
                due("game " + seed + ": the value " + p + " / " + q, q >= 1 && q <= b.vertices);
                due("game " + seed + ": what divides " + p + " and " + q, greatestCommon(p, q), 1);
            }
        }
    }

    @Says("for each vertex an edge that is best whatever the other player does")
    private static void whatItIs_player0sBestEdgesHoldTheValueAgainstAnyPlay() {
        for (int seed = 0; seed < GAMES; seed++) {
            Board b = new Board(seed);
            int[] tops = b.tops();
            int[] bottoms = b.bottoms();
            b.game.settle(0);
            int[] sums = b.sumsOf(VERY_LONG);
            for (int v = 0; v < b.vertices; v++) {
                int over = sums[v] * bottoms[v] - VERY_LONG * tops[v];
                due("game " + seed + ": less than the value from " + v, over >= -SLACK * bottoms[v]);
            }
        }
    }

    @Says("player 1 can keep the upper limit at x, too")
    private static void terms_player1sBestEdgesHoldTheValueAgainstAnyPlay() {
        for (int seed = 0; seed < GAMES; seed++) {
            Board b = new Board(seed);
            int[] tops = b.tops();
            int[] bottoms = b.bottoms();
            b.game.settle(1);
            int[] sums = b.sumsOf(VERY_LONG);
            for (int v = 0; v < b.vertices; v++) {
                int over = sums[v] * bottoms[v] - VERY_LONG * tops[v];
                due("game " + seed + ": more than the value from " + v, over <= SLACK * bottoms[v]);
            }
        }
    }

    @Says("p - q * w if it belongs to player 1, and let the players change places in that case")
    private static void terms_turnedRoundTheBestEdgesAreTheSame() {
        for (int seed = 0; seed < GAMES; seed++) {
            Board b = new Board(seed);
            CreditGame turned = b.turned();
            for (int v = 0; v < b.vertices; v++) {
                String name = "game " + seed + " turned round: ";
                due(name + "best(" + v + ")", turned.best(v), b.game.best(v));
                due(name + "value(" + v + ", false)", turned.value(v, false), -b.game.value(v, false));
                due(name + "value(" + v + ", true)", turned.value(v, true), b.game.value(v, true));
                due(name + "walk(" + v + ", 0)", turned.walk(v, 0), b.game.walk(v, 0));
                due(name + "walk(" + v + ", 1)", turned.walk(v, 1), b.game.walk(v, 1));
                due(name + "walk(" + v + ", 2)", turned.walk(v, 2), -b.game.walk(v, 2));
                due(name + "walk(" + v + ", 3)", turned.walk(v, 3), b.game.walk(v, 3));
            }
            for (int side = 0; side < 2; side++) {
                due("game " + seed + " turned round: settle", turned.settle(1 - side), b.game.settle(side));
            }
        }
    }

    /** The document's own words, by the class's own credits: the changed weights are those of another object. */
    @Says("Of the edges that lead from v, the first one .. v's credit there and the edge's weight there ..")
    private static void terms_theBestEdgeByTheCreditsOfTheChangedGame() {
        int tried = 0;
        for (int seed = 0; seed < 4 * GAMES; seed++) {
            Board b = new Board(seed);
            int[] fixed = b.fixed();
            for (int v = 0; v < b.vertices; v++) {
                int[] weights = changedWeights(b, v);
                if (areLightEnough(weights)) {
                    tried++;
                    CreditGame changed = changedGame(b, fixed, b.player[v], weights);
                    due("game " + seed + ": best(" + v + ")", b.game.best(v),
                            firstEnough(b, fixed, v, changed, weights));
                }
            }
        }
        due("only " + tried + " games had weights that could be changed", tried >= GAMES);
    }

    private static int[] changedWeights(Board b, int v) {
        int p = b.game.value(v, false);
        int q = b.game.value(v, true);
        int[] weights = new int[b.edges];
        for (int e = 0; e < b.edges; e++) {
            weights[e] = b.player[v] == 0 ? q * b.weight[e] - p : p - q * b.weight[e];
        }
        return weights;
    }

    private static boolean areLightEnough(int[] weights) {
        return Arrays.stream(weights).allMatch(w -> w >= -9 && w <= 9);
    }

    private static CreditGame changedGame(Board b, int[] fixed, int side, int[] weights) {
        CreditGame changed = new CreditGame();
        for (int u = 0; u < b.vertices; u++) {
            changed.vertex(side == 0 ? b.player[u] : 1 - b.player[u]);
        }
        for (int e = 0; e < b.edges; e++) {
            changed.edge(b.from[e], b.to[e], weights[e]);
        }
        for (int u = 0; u < b.vertices; u++) {
            changed.fix(u, fixed[u]);
        }
        return changed;
    }

    private static int firstEnough(Board b, int[] fixed, int v, CreditGame changed, int[] weights) {
        for (int e = 0; e < b.edges; e++) {
            int after = changed.credit(b.to[e]);
            boolean enough = after != NONE && changed.credit(v) + weights[e] >= after;
            if (b.from[e] == v && b.leads(e, fixed) && enough) {
                return e;
            }
        }
        return NONE;
    }

    @Says("(There is one.)")
    private static void terms_thereIsABestEdge() {
        for (int seed = 0; seed < GAMES; seed++) {
            Board b = new Board(seed);
            int[] fixed = b.fixed();
            for (int v = 0; v < b.vertices; v++) {
                int e = b.game.best(v);
                boolean leads = e >= 0 && e < b.edges && b.from[e] == v && b.leads(e, fixed);
                due("game " + seed + ": best(" + v + ") is " + e, leads);
            }
        }
    }

    @Says("goes by best edges, of both players, until it comes to a vertex for the second time")
    private static void terms_theWalkGoesByBestEdges() {
        for (int seed = 0; seed < GAMES; seed++) {
            Board b = new Board(seed);
            for (int v = 0; v < b.vertices; v++) {
                int at = v;
                for (int n = b.game.walk(v, 0); n > 0; n--) {
                    due("game " + seed + ": the loop from " + v + " begins sooner", at != b.game.walk(v, 3));
                    at = b.to[b.game.best(at)];
                }
                due("game " + seed + ": walk(" + v + ", 3)", b.game.walk(v, 3), at);
                int sum = 0;
                for (int n = b.game.walk(v, 1); n > 0; n--) {
                    int e = b.game.best(at);
                    sum += b.weight[e];
                    at = b.to[e];
                    due("game " + seed + ": the loop of " + v + " ends sooner", n == 1 || at != b.game.walk(v, 3));
                }
                due("game " + seed + ": the end of the loop of " + v, at, b.game.walk(v, 3));
                due("game " + seed + ": walk(" + v + ", 2)", b.game.walk(v, 2), sum);
            }
        }
    }

    @Says("(Their average weight is the value.)")
    private static void terms_theLoopsAverageIsTheValue() {
        for (int seed = 0; seed < GAMES; seed++) {
            Board b = new Board(seed);
            for (int v = 0; v < b.vertices; v++) {
                due("game " + seed + ": the loop from " + v, b.game.walk(v, 2) * b.game.value(v, true),
                        b.game.value(v, false) * b.game.walk(v, 1));
            }
        }
    }

    @Says("An object is used for at most 512 calls after it has been made")
    private static void whatItIs_everyCallThatAnswersIsRightAsThe512th() {
        for (int kind = 0; kind < 10; kind++) {
            for (int seed = 0; seed < 14; seed++) {
                CreditGame used = new CreditGame();
                int calls = build(used, seed);
                CreditGame fresh = new CreditGame();
                build(fresh, seed);
                for (int n = calls; n < CALLS - 1; n++) {
                    askOrBeRefused(used, n, 1 + seed % 7);
                }
                due("game " + seed + ": call 512, kind " + kind, answer(used, kind), answer(fresh, kind));
            }
        }
    }

    /** What fix did is seen by the next call alone, so that it can be the 511th at most. */
    @Says("An object is used for at most 512 calls after it has been made")
    private static void whatItIs_fixAsThe511thIsSeenByThe512th() {
        for (int seed = 0; seed < 14; seed++) {
            CreditGame used = new CreditGame();
            int vertices = 1 + seed % 7;
            for (int n = build(used, seed); n < CALLS - 2; n++) {
                askOrBeRefused(used, n, vertices);
            }
            used.fix(vertices - 1, 2 * vertices - 1);
            due("game " + seed + ": fixed as call 512", used.fixed(vertices - 1), 2 * vertices - 1);
        }
    }

    /** So small that an edge and, but for the last, a vertex can still be made. */
    private static int build(CreditGame g, int seed) {
        Random random = new Random(seed);
        int vertices = 1 + seed % 7;
        for (int v = 0; v < vertices; v++) {
            g.vertex(random.nextInt(2));
        }
        for (int e = 0; e < 3 * vertices; e++) {
            g.edge(e % vertices, random.nextInt(vertices), random.nextInt(19) - 9);
        }
        return 4 * vertices;
    }

    /** Calls that leave the game as it is: what only asks, and what is refused. */
    private static void askOrBeRefused(CreditGame g, int n, int vertices) {
        try {
            switch (n % 8) {
                case 0 -> g.credit(n / 8 % vertices);
                case 1 -> g.best(n / 8 % vertices);
                case 2 -> g.walk(n / 8 % vertices, n / 64 % 4);
                case 3 -> g.value(n / 8 % (vertices + 1), n % 16 == 3);
                case 4 -> g.edge(n / 8 % vertices, vertices, 0);
                case 5 -> g.fix(n / 8 % vertices, 24);
                case 6 -> g.reaches(n / 8 % vertices, n % 99, n % 10);
                default -> g.settle(2);
            }
        } catch (IllegalArgumentException e) {
            // some of these calls are refused by intent
        }
    }

    private static int answer(CreditGame g, int kind) {
        try {
            return switch (kind) {
                case 0 -> g.vertex(1);
                case 1 -> g.edge(0, 0, 9);
                case 2 -> g.credit(0);
                case 3 -> g.fixed(0);
                case 4 -> g.reaches(0, 1, 2) ? 1 : 0;
                case 5 -> g.value(0, false);
                case 6 -> g.value(0, true);
                case 7 -> g.best(0);
                case 8 -> g.settle(0);
                default -> g.walk(0, 2);
            };
        } catch (IllegalStateException e) {
            return Integer.MIN_VALUE;
        }
    }

    @Says("Nothing is promised beyond the answers and state changes described above")
    private static void notPromised_askingWhileTheGameGrowsChangesNoAnswer() {
        for (int seed = 0; seed < GAMES; seed++) {
            Random random = new Random(seed);
            CreditGame asked = new CreditGame();
            CreditGame quiet = new CreditGame();
            int vertices = 1 + random.nextInt(7);
            for (int v = 0; v < vertices; v++) {
                int player = random.nextInt(2);
                asked.vertex(player);
                quiet.vertex(player);
                int to = random.nextInt(v + 1);
                int weight = random.nextInt(19) - 9;
                asked.edge(v, to, weight);
                quiet.edge(v, to, weight);
                askOf(asked, random.nextInt(v + 1));
            }
            for (int n = vertices; n < Math.min(24, 2 * vertices); n++) {
                int from = random.nextInt(vertices);
                int to = random.nextInt(vertices);
                int weight = random.nextInt(19) - 9;
                asked.edge(from, to, weight);
                quiet.edge(from, to, weight);
                askOf(asked, random.nextInt(vertices));
                int held = random.nextInt(2) == 0 ? n : NONE;
                asked.fix(from, held);
                quiet.fix(from, held);
                askOf(asked, random.nextInt(vertices));
            }
            for (int side = 0; side < 2; side++) {
                due("game " + seed + ": all answers", askAll(asked, vertices), askAll(quiet, vertices));
                due("game " + seed + ": settle(" + side + ")", asked.settle(side), quiet.settle(side));
            }
            due("game " + seed + ": all answers then", askAll(asked, vertices), askAll(quiet, vertices));
        }
    }

    /** All answers in one number. */
    private static int askAll(CreditGame g, int vertices) {
        int all = 7;
        for (int v = 0; v < vertices; v++) {
            all = 1000003 * all + askOf(g, v);
        }
        return all;
    }

    private static int askOf(CreditGame g, int v) {
        int all = g.walk(v, 2);
        all = 31 * all + g.value(v, true);
        all = 31 * all + g.credit(v);
        all = 31 * all + g.best(v);
        all = 31 * all + g.value(v, false);
        return 31 * all + g.fixed(v);
    }
}
