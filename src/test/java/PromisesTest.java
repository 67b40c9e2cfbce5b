/** Each promise of the document by hand: ordinary inputs, the edges that it names, and wrong inputs. */
public final class PromisesTest {
    private static final Class<?> ARGUMENT = IllegalArgumentException.class;
    private static final Class<?> STATE = IllegalStateException.class;
    private static final int[] FAR = {-1, -2, 7, 24, Integer.MIN_VALUE, Integer.MAX_VALUE};
    private static int wrong = 0;

    private interface Call {
        void run();
    }

    public static void main(String[] args) {
        promise1NewObject();
        promise2Vertex();
        promise3Edge();
        promise4Fix();
        promise5Fixed();
        promise6Credit();
        promise6CreditAtTheLimits();
        promise7Reaches();
        promise8Value();
        promise9Best();
        promise10Settle();
        promise10SettleAtOnce();
        promise11Walk();
        completeness();
        argumentsComeFirst();
        if (wrong > 0) {
            System.out.println(wrong + " wrong answers");
            System.exit(1);
        }
        System.out.println("all promises hold");
    }

    private static void due(String what, int got, int want) {
        if (got != want) {
            wrong++;
            System.out.println(what + " answered " + got + ", due is " + want);
        }
    }

    private static void due(String what, boolean got, boolean want) {
        due(what, got ? 1 : 0, want ? 1 : 0);
    }

    private static void refused(String what, Class<?> want, Call call) {
        Class<?> got = null;
        try {
            call.run();
        } catch (RuntimeException e) {
            got = e.getClass();
        }
        if (got != want) {
            wrong++;
            System.out.println(what + " threw " + got + ", due is " + want);
        }
    }

    private static CreditGame game(int[] players, int[]... edges) {
        CreditGame g = new CreditGame();
        for (int player : players) {
            g.vertex(player);
        }
        for (int[] e : edges) {
            g.edge(e[0], e[1], e[2]);
        }
        return g;
    }

    private static int[] players(int... list) {
        return list;
    }

    private static int[] e(int from, int to, int weight) {
        return new int[] {from, to, weight};
    }

    /** Player 0 may lose 1 for ever, or pay 3 to go where player 1 must give it back. */
    private static CreditGame small() {
        return game(players(0, 1), e(0, 0, -1), e(1, 0, 3), e(1, 1, 2), e(0, 1, -3));
    }

    /** Seven vertices in a ring, the weights together 1. */
    private static CreditGame ring() {
        return game(players(0, 1, 0, 1, 0, 1, 0), e(0, 1, 9), e(1, 2, -9), e(2, 3, -9), e(3, 4, -9),
                e(4, 5, 9), e(5, 6, 9), e(6, 0, 1));
    }

    private static void promise1NewObject() {
        due("NONE", CreditGame.NONE, -1);
        CreditGame g = new CreditGame();
        refused("new: fixed(0)", ARGUMENT, () -> g.fixed(0));
        refused("new: edge(0, 0, 0)", ARGUMENT, () -> g.edge(0, 0, 0));
        refused("new: settle(0)", STATE, () -> g.settle(0));
        due("new: vertex(1)", g.vertex(1), 0);
        due("new: edge(0, 0, 0)", g.edge(0, 0, 0), 0);
        CreditGame other = new CreditGame();
        refused("another new: fixed(0)", ARGUMENT, () -> other.fixed(0));
    }

    private static void promise2Vertex() {
        CreditGame g = new CreditGame();
        for (int v = 0; v < 7; v++) {
            refused("vertex(2)", ARGUMENT, () -> g.vertex(2));
            refused("vertex(-1)", ARGUMENT, () -> g.vertex(-1));
            due("vertex", g.vertex(v % 2), v);
            due("a new vertex is fixed to", g.fixed(v), CreditGame.NONE);
        }
        refused("eighth vertex(0)", STATE, () -> g.vertex(0));
        refused("eighth vertex(1)", STATE, () -> g.vertex(1));
        refused("eighth vertex(2)", ARGUMENT, () -> g.vertex(2));
        refused("fixed(7)", ARGUMENT, () -> g.fixed(7));
        due("edge at the seventh", g.edge(6, 6, 4), 0);
    }

    private static void promise3Edge() {
        CreditGame g = game(players(0, 1, 0));
        for (int far : new int[] {-1, 3, 7, Integer.MIN_VALUE, Integer.MAX_VALUE}) {
            refused("edge from " + far, ARGUMENT, () -> g.edge(far, 0, 0));
            refused("edge to " + far, ARGUMENT, () -> g.edge(0, far, 0));
        }
        for (int heavy : new int[] {-10, 10, Integer.MIN_VALUE, Integer.MAX_VALUE}) {
            refused("edge of " + heavy, ARGUMENT, () -> g.edge(0, 0, heavy));
        }
        for (int n = 0; n < 24; n++) {
            due("edge", g.edge(n % 3, (n + n / 3) % 3, n % 2 == 0 ? 9 : -9), n);
        }
        refused("25th edge", STATE, () -> g.edge(0, 0, 0));
        refused("25th edge to 3", ARGUMENT, () -> g.edge(0, 3, 0));
        refused("25th edge of 10", ARGUMENT, () -> g.edge(0, 0, 10));
        refused("fix to the 25th", ARGUMENT, () -> g.fix(0, 24));
        g.fix(2, 23);
        due("fixed to the 24th", g.fixed(2), 23);

        CreditGame one = game(players(0));
        for (int n = 0; n < 24; n++) {
            due("loop", one.edge(0, 0, n < 23 ? -9 : 9), n);
        }
        due("the last of 24 loops is the best", one.best(0), 23);
        due("and its weight is the value", one.value(0, false), 9);
    }

    private static void promise4Fix() {
        CreditGame g = small();
        for (int far : FAR) {
            refused("fix of " + far, ARGUMENT, () -> g.fix(far, 0));
            refused("fix of " + far + " to none", ARGUMENT, () -> g.fix(far, CreditGame.NONE));
        }
        refused("fix of the vertex 2", ARGUMENT, () -> g.fix(2, 0));
        g.fix(1, 2);
        refused("fix to another's edge", ARGUMENT, () -> g.fix(1, 3));
        refused("fix to the next edge", ARGUMENT, () -> g.fix(1, 4));
        refused("fix to -2", ARGUMENT, () -> g.fix(1, -2));
        refused("fix to the greatest", ARGUMENT, () -> g.fix(1, Integer.MAX_VALUE));
        refused("fix to the least", ARGUMENT, () -> g.fix(1, Integer.MIN_VALUE));
        due("after what was refused: fixed(1)", g.fixed(1), 2);
        due("fixed: value(1)", g.value(1, false), 2);
        due("fixed: best(1)", g.best(1), 2);
        g.fix(1, 1);
        due("fixed anew: value(1)", g.value(1, false), 0);
        g.fix(0, 0);
        due("fixed: value(0)", g.value(0, false), -1);
        due("fixed: credit(0)", g.credit(0), CreditGame.NONE);
        due("fixed: value(1)", g.value(1, false), -1);
        g.fix(0, CreditGame.NONE);
        due("free again: value(0)", g.value(0, false), 0);
        g.fix(0, CreditGame.NONE);
        due("free twice: fixed(0)", g.fixed(0), CreditGame.NONE);
        CreditGame bare = game(players(1));
        bare.fix(0, CreditGame.NONE);
        due("without edges: fixed(0)", bare.fixed(0), CreditGame.NONE);
    }

    private static void promise5Fixed() {
        CreditGame g = small();
        due("fixed(0)", g.fixed(0), CreditGame.NONE);
        g.fix(0, 3);
        due("fixed(0) behind fix(0, 3)", g.fixed(0), 3);
        due("fixed(1) behind fix(0, 3)", g.fixed(1), CreditGame.NONE);
        due("a later edge", g.edge(0, 0, 9), 4);
        due("fixed(0) behind a later edge", g.fixed(0), 3);
        due("the later edge does not lead: value(0)", g.value(0, false), 0);
        for (int far : FAR) {
            refused("fixed(" + far + ")", ARGUMENT, () -> g.fixed(far));
        }
        refused("fixed(2)", ARGUMENT, () -> g.fixed(2));
        CreditGame open = game(players(0, 0), e(0, 1, 1));
        open.fix(0, 0);
        due("fixed(0) in a game that is not complete", open.fixed(0), 0);
    }

    private static void promise6Credit() {
        CreditGame g = small();
        due("credit(0)", g.credit(0), 3);
        due("credit(1)", g.credit(1), 0);
        for (int far : FAR) {
            refused("credit(" + far + ")", ARGUMENT, () -> g.credit(far));
        }
        CreditGame lost = game(players(0, 1), e(0, 0, -1), e(1, 0, 9), e(1, 1, 9));
        due("a vertex without credit", lost.credit(0), CreditGame.NONE);
        due("one that player 1 leads there", lost.credit(1), CreditGame.NONE);
        lost.edge(0, 0, 0);
        due("a loop of nothing is enough", lost.credit(0), 0);
        due("and for player 1's", lost.credit(1), 0);
        CreditGame cheap = game(players(0, 0, 0), e(0, 1, -7), e(0, 2, -4), e(1, 1, 0), e(2, 2, 0));
        due("player 0 takes the cheaper way", cheap.credit(0), 4);
        CreditGame dear = game(players(1, 0, 0), e(0, 1, -7), e(0, 2, -4), e(1, 1, 0), e(2, 2, 0));
        due("player 1 takes the dearer way", dear.credit(0), 7);
        CreditGame slow = game(players(0, 0), e(0, 0, -1), e(0, 1, -9), e(1, 1, 0));
        due("losing slowly does not help", slow.credit(0), 9);
        CreditGame between = game(players(0, 0, 0), e(0, 1, 5), e(1, 2, -8), e(2, 0, 3));
        due("the least on the way counts", between.credit(0), 3);
        due("the least on the way counts from 1", between.credit(1), 8);
        due("the least on the way counts from 2", between.credit(2), 0);
    }

    private static void promise6CreditAtTheLimits() {
        CreditGame line = game(players(0, 1, 0, 1, 0, 1, 0), e(0, 1, -9), e(1, 2, -9), e(2, 3, -9),
                e(3, 4, -9), e(4, 5, -9), e(5, 6, -9), e(6, 6, 0));
        for (int v = 0; v < 7; v++) {
            due("credit of " + v + " in a line of -9", line.credit(v), 9 * (6 - v));
        }
        CreditGame nine = ring();
        due("credit(0) in the ring", nine.credit(0), 18);
        due("credit(1) in the ring", nine.credit(1), 27);
        due("credit(4) in the ring", nine.credit(4), 0);
        nine.fix(0, 0);
        due("credit(6) in the ring", nine.credit(6), 17);
    }

    private static void promise7Reaches() {
        CreditGame g = ring();
        for (int v = 0; v < 7; v++) {
            due("1 / 7", g.reaches(v, 1, 7), true);
            due("1 / 6", g.reaches(v, 1, 6), false);
            due("1 / 8", g.reaches(v, 1, 8), true);
            due("1 / 9", g.reaches(v, 1, 9), true);
            due("2 / 9", g.reaches(v, 2, 9), false);
            due("0", g.reaches(v, 0, 1), true);
            due("-99", g.reaches(v, -99, 1), true);
            due("-99 / 9", g.reaches(v, -99, 9), true);
            due("99", g.reaches(v, 99, 1), false);
            due("99 / 9", g.reaches(v, 99, 9), false);
        }
        CreditGame low = game(players(0, 1), e(0, 1, -9), e(1, 0, -8));
        due("-17 / 2", low.reaches(0, -17, 2), true);
        due("-68 / 8", low.reaches(0, -68, 8), true);
        due("-67 / 8", low.reaches(0, -67, 8), false);
        due("-9", low.reaches(1, -9, 1), true);
        due("-8", low.reaches(1, -8, 1), false);
        for (int far : new int[] {-100, 100, Integer.MIN_VALUE, Integer.MAX_VALUE}) {
            refused("reaches with p " + far, ARGUMENT, () -> g.reaches(0, far, 1));
        }
        for (int far : new int[] {-1, 0, 10, Integer.MIN_VALUE, Integer.MAX_VALUE}) {
            refused("reaches with q " + far, ARGUMENT, () -> g.reaches(0, 0, far));
        }
        for (int far : FAR) {
            refused("reaches of " + far, ARGUMENT, () -> g.reaches(far, 0, 1));
        }
    }

    private static void value(String what, CreditGame g, int vertex, int top, int bottom) {
        due(what + ": numerator of " + vertex, g.value(vertex, false), top);
        due(what + ": denominator of " + vertex, g.value(vertex, true), bottom);
    }

    private static void promise8Value() {
        value("ring", ring(), 3, 1, 7);
        value("small", small(), 0, 0, 1);
        value("small", small(), 1, 0, 1);
        value("a third below", game(players(0, 0, 1), e(0, 1, 5), e(1, 2, -9), e(2, 0, 3), e(2, 1, 9), e(0, 0, -1)),
                0, -1, 3);
        value("lowest terms", game(players(0, 1, 0, 1), e(0, 1, 4), e(1, 2, 0), e(2, 3, 3), e(3, 0, -1)), 2, 3, 2);
        value("lowest terms below 0", game(players(0, 1, 0, 1), e(0, 1, -9), e(1, 2, 0), e(2, 3, -2), e(3, 0, 1)),
                1, -5, 2);
        value("nothing", game(players(0, 1, 0), e(0, 1, -9), e(1, 2, 0), e(2, 0, 9)), 0, 0, 1);
        value("most", game(players(1), e(0, 0, 9)), 0, 9, 1);
        value("least", game(players(0), e(0, 0, -9)), 0, -9, 1);
        CreditGame two = game(players(0, 1), e(0, 0, 2), e(0, 1, -9), e(1, 1, 4), e(1, 0, 9));
        value("two classes", two, 0, 2, 1);
        value("two classes", two, 1, 2, 1);
        two.edge(1, 1, 1);
        value("player 1 has a smaller loop", two, 0, 2, 1);
        value("player 1 has a smaller loop", two, 1, 1, 1);
        two.fix(1, 2);
        value("fixed to the loop", two, 0, 4, 1);
        value("fixed to the loop", two, 1, 4, 1);
        two.fix(1, CreditGame.NONE);
        value("free again", two, 0, 2, 1);
        for (int far : FAR) {
            refused("value(" + far + ", false)", ARGUMENT, () -> two.value(far, false));
            refused("value(" + far + ", true)", ARGUMENT, () -> two.value(far, true));
        }
    }

    private static void promise9Best() {
        CreditGame g = small();
        due("best(0)", g.best(0), 3);
        due("best(1)", g.best(1), 1);
        g.fix(1, 2);
        due("fixed: best(1)", g.best(1), 2);
        CreditGame same = game(players(0, 1), e(0, 1, 1), e(0, 1, 1), e(1, 0, 1), e(1, 0, 1));
        due("the first of two that are the same", same.best(0), 0);
        due("the first of two that are the same, player 1", same.best(1), 2);
        same.fix(0, 1);
        due("fixed: the second", same.best(0), 1);
        CreditGame cheap = game(players(0, 0, 0), e(0, 1, -7), e(0, 2, -4), e(1, 1, 0), e(2, 2, 0));
        due("the value alone does not choose: the credit does", cheap.best(0), 1);
        CreditGame swapped = game(players(1, 0, 0), e(0, 1, 4), e(0, 2, -7), e(1, 1, 0), e(2, 2, 0));
        due("player 1's credit chooses", swapped.best(0), 1);
        CreditGame slack = game(players(0, 0, 0), e(0, 1, 3), e(0, 2, 8), e(1, 1, 0), e(2, 2, 0));
        due("the first that is enough, not the heaviest", slack.best(0), 0);
        CreditGame deep = game(players(0, 0, 1), e(0, 1, 9), e(0, 2, -9), e(1, 1, 1), e(2, 2, 2));
        due("the long run outweighs the first edge", deep.best(0), 1);
        for (int far : FAR) {
            refused("best(" + far + ")", ARGUMENT, () -> deep.best(far));
        }
    }

    private static void promise10Settle() {
        CreditGame g = game(players(0, 1, 0, 0), e(0, 1, -3), e(0, 0, -1), e(1, 0, 3), e(1, 1, 2), e(2, 2, 1),
                e(2, 0, 9), e(3, 3, 5), e(3, 2, 0));
        refused("settle(2)", ARGUMENT, () -> g.settle(2));
        refused("settle(-1)", ARGUMENT, () -> g.settle(-1));
        g.fix(3, 7);
        due("settle(0)", g.settle(0), 2);
        due("fixed(0)", g.fixed(0), 0);
        due("fixed(1)", g.fixed(1), CreditGame.NONE);
        due("fixed(2)", g.fixed(2), 4);
        due("what was fixed stays", g.fixed(3), 7);
        due("settle(0) again", g.settle(0), 0);
        due("settle(1)", g.settle(1), 1);
        due("fixed(1) now", g.fixed(1), 2);
        due("settle(1) again", g.settle(1), 0);
        value("settled", g, 0, 0, 1);
        value("settled", g, 3, 1, 1);
        g.fix(0, CreditGame.NONE);
        due("settle(0) behind freeing one", g.settle(0), 1);
        due("settle of a player without vertices", game(players(0), e(0, 0, 1)).settle(1), 0);
    }

    /** In this game fixing the vertex 1 alone would make another edge of the vertex 3 the best. */
    private static void promise10SettleAtOnce() {
        CreditGame g = game(players(0, 1, 1, 1), e(0, 2, 0), e(1, 1, -2), e(2, 1, 4), e(3, 0, -2), e(3, 3, -1),
                e(0, 0, -1), e(2, 0, -5), e(1, 0, -6));
        int[] best = {g.best(0), g.best(1), g.best(2), g.best(3)};
        due("settle(1)", g.settle(1), 3);
        due("fixed(0)", g.fixed(0), CreditGame.NONE);
        for (int v = 1; v < 4; v++) {
            due("fixed to what was the best edge of " + v, g.fixed(v), best[v]);
        }
        due("the best edge of 3", best[3], 3);
    }

    private static void walk(String what, CreditGame g, int vertex, int[] want) {
        for (int k = 0; k < 4; k++) {
            due(what + ": walk(" + vertex + ", " + k + ")", g.walk(vertex, k), want[k]);
        }
    }

    private static void promise11Walk() {
        walk("small", small(), 0, new int[] {0, 2, 0, 0});
        walk("small", small(), 1, new int[] {0, 2, 0, 1});
        walk("ring", ring(), 5, new int[] {0, 7, 1, 5});
        CreditGame hook = game(players(0, 1, 0, 1, 0, 1, 0), e(0, 1, 9), e(1, 2, -9), e(2, 3, 4), e(3, 4, 1),
                e(4, 5, 2), e(5, 6, 3), e(6, 4, -7));
        walk("hook", hook, 0, new int[] {4, 3, -2, 4});
        walk("hook", hook, 3, new int[] {1, 3, -2, 4});
        walk("hook", hook, 6, new int[] {0, 3, -2, 6});
        CreditGame end = game(players(0, 0, 0, 0, 0, 0, 0), e(0, 1, 1), e(1, 2, 1), e(2, 3, 1), e(3, 4, 1),
                e(4, 5, 1), e(5, 6, 1), e(6, 6, -9));
        walk("the longest way to the shortest loop", end, 0, new int[] {6, 1, -9, 6});
        walk("a loop of one", game(players(1), e(0, 0, 4), e(0, 0, -5)), 0, new int[] {0, 1, -5, 0});
        for (int far : FAR) {
            refused("walk(" + far + ", 0)", ARGUMENT, () -> end.walk(far, 0));
        }
        for (int far : new int[] {-1, 4, Integer.MIN_VALUE, Integer.MAX_VALUE}) {
            refused("walk(0, " + far + ")", ARGUMENT, () -> end.walk(0, far));
        }
    }

    private static void allRefused(String what, CreditGame g, Class<?> want) {
        refused(what + ": credit", want, () -> g.credit(0));
        refused(what + ": reaches", want, () -> g.reaches(0, 0, 1));
        refused(what + ": value", want, () -> g.value(0, false));
        refused(what + ": value below", want, () -> g.value(0, true));
        refused(what + ": best", want, () -> g.best(0));
        refused(what + ": walk", want, () -> g.walk(0, 0));
    }

    private static void completeness() {
        CreditGame g = new CreditGame();
        allRefused("no vertex", g, ARGUMENT);
        refused("no vertex: settle(0)", STATE, () -> g.settle(0));
        refused("no vertex: settle(1)", STATE, () -> g.settle(1));
        g.vertex(0);
        allRefused("no edge", g, STATE);
        refused("no edge: settle(0)", STATE, () -> g.settle(0));
        g.edge(0, 0, 1);
        due("complete: credit(0)", g.credit(0), 0);
        g.vertex(1);
        allRefused("no edge from 1", g, STATE);
        refused("no edge from 1: settle(0)", STATE, () -> g.settle(0));
        due("settle that was refused fixed nothing", g.fixed(0), CreditGame.NONE);
        g.edge(0, 1, 1);
        allRefused("an edge to 1 is none from it", g, STATE);
        g.edge(1, 0, -3);
        due("complete again: value(0)", g.value(0, false), 1);
        due("complete again: walk(1, 0)", g.walk(1, 0), 1);
    }

    private static void argumentsComeFirst() {
        CreditGame g = game(players(0, 1), e(0, 1, 0));
        refused("not complete: credit(2)", ARGUMENT, () -> g.credit(2));
        refused("not complete: reaches(2, 0, 1)", ARGUMENT, () -> g.reaches(2, 0, 1));
        refused("not complete: reaches(0, 100, 1)", ARGUMENT, () -> g.reaches(0, 100, 1));
        refused("not complete: reaches(0, 0, 10)", ARGUMENT, () -> g.reaches(0, 0, 10));
        refused("not complete: value(-1, true)", ARGUMENT, () -> g.value(-1, true));
        refused("not complete: best(2)", ARGUMENT, () -> g.best(2));
        refused("not complete: settle(2)", ARGUMENT, () -> g.settle(2));
        refused("not complete: walk(2, 0)", ARGUMENT, () -> g.walk(2, 0));
        refused("not complete: walk(0, 4)", ARGUMENT, () -> g.walk(0, 4));
    }
}
