import java.util.Random;

/**
 * Promises 5 to 11 on many small games, each answer against a second way to find it: values by trying
 * every pair of choices, credits by raising them up to a bound, best edges and walks by their words.
 */
public final class OracleTest {
    private static final int TOP = 1000000;
    private static int wrong = 0;

    public static void main(String[] args) {
        Random random = new Random(20261115);
        for (int game = 0; game < 4000; game++) {
            Oracle oracle = randomGame(random, game % 7 + 1, game % 3);
            tryGame(game, oracle, random);
        }
        if (wrong > 0) {
            System.out.println(wrong + " wrong answers");
            System.exit(1);
        }
        System.out.println("all games are as the oracle has them");
    }

    private static void due(int game, String call, int got, int want) {
        if (got != want) {
            wrong++;
            System.out.println("game " + game + ": " + call + " answered " + got + ", due is " + want);
        }
    }

    private static Oracle randomGame(Random random, int vertices, int kind) {
        Oracle o = new Oracle();
        int greatest = kind == 0 ? 1 : kind == 1 ? 3 : 9;
        for (int v = 0; v < vertices; v++) {
            o.player[o.vertices] = random.nextInt(2);
            due(-1, "vertex", o.game.vertex(o.player[o.vertices]), o.vertices);
            o.vertices++;
        }
        int edges = Math.min(24, vertices + random.nextInt(vertices * 3 + 1));
        for (int e = 0; e < edges; e++) {
            o.from[e] = e < vertices ? e : random.nextInt(vertices);
            o.to[e] = random.nextInt(vertices);
            o.weight[e] = random.nextInt(2 * greatest + 1) - greatest;
            due(-1, "edge", o.game.edge(o.from[e], o.to[e], o.weight[e]), e);
            o.edges++;
        }
        for (int v = 0; v < vertices; v++) {
            o.fixed[v] = -1;
            if (random.nextInt(6) == 0) {
                o.fix(v, o.firstFrom(v));
            }
        }
        return o;
    }

    private static void tryGame(int game, Oracle o, Random random) {
        tellAll(game, o, random);
        int player = random.nextInt(2);
        due(game, "settle(" + player + ")", o.game.settle(player), o.settle(player));
        tellAll(game, o, random);
        int freed = random.nextInt(o.vertices);
        o.fix(freed, -1);
        tellAll(game, o, random);
    }

    private static void tellAll(int game, Oracle o, Random random) {
        o.findValues();
        int[] credits = o.credits(0, 0, 1);
        for (int v = 0; v < o.vertices; v++) {
            due(game, "fixed(" + v + ")", o.game.fixed(v), o.fixed[v]);
            due(game, "credit(" + v + ")", o.game.credit(v), credits[v] == TOP ? -1 : credits[v]);
            due(game, "value(" + v + ", false)", o.game.value(v, false), o.top[v]);
            due(game, "value(" + v + ", true)", o.game.value(v, true), o.bottom[v]);
            due(game, "best(" + v + ")", o.game.best(v), o.best(v));
            int p = random.nextInt(199) - 99;
            int q = random.nextInt(9) + 1;
            tellReaches(game, o, v, p, q);
            tellReaches(game, o, v, o.top[v], o.bottom[v]);
            tellReaches(game, o, v, o.top[v] + 1, o.bottom[v]);
            int[] walk = o.walk(v);
            for (int what = 0; what < 4; what++) {
                due(game, "walk(" + v + ", " + what + ")", o.game.walk(v, what), walk[what]);
            }
        }
    }

    private static void tellReaches(int game, Oracle o, int v, int p, int q) {
        int want = o.top[v] * q >= p * o.bottom[v] ? 1 : 0;
        due(game, "reaches(" + v + ", " + p + ", " + q + ")", o.game.reaches(v, p, q) ? 1 : 0, want);
    }

    private static final class Oracle {
        final CreditGame game = new CreditGame();
        final int[] player = new int[7];
        final int[] fixed = new int[7];
        final int[] from = new int[24];
        final int[] to = new int[24];
        final int[] weight = new int[24];
        final int[] choice = new int[7];
        final int[] top = new int[7];
        final int[] bottom = new int[7];
        final int[] worstTop = new int[7];
        final int[] worstBottom = new int[7];
        int vertices = 0;
        int edges = 0;

        void fix(int v, int e) {
            fixed[v] = e;
            game.fix(v, e);
        }

        int firstFrom(int v) {
            return nextFrom(v, -1);
        }

        int nextFrom(int v, int after) {
            for (int e = after + 1; e < edges; e++) {
                if (from[e] == v) {
                    return e;
                }
            }
            return -1;
        }

        boolean leads(int e, int v) {
            return from[e] == v && (fixed[v] == -1 || fixed[v] == e);
        }

        /** The greatest, over all choices of player 0, of the least over all choices of player 1. */
        void findValues() {
            for (int v = 0; v < vertices; v++) {
                top[v] = -TOP;
                bottom[v] = 1;
            }
            begin(0);
            do {
                for (int v = 0; v < vertices; v++) {
                    worstTop[v] = TOP;
                    worstBottom[v] = 1;
                }
                begin(1);
                do {
                    lowerWorst();
                } while (next(1));
                for (int v = 0; v < vertices; v++) {
                    if (worstTop[v] * bottom[v] > top[v] * worstBottom[v]) {
                        top[v] = worstTop[v];
                        bottom[v] = worstBottom[v];
                    }
                }
            } while (next(0));
            for (int v = 0; v < vertices; v++) {
                reduce(v);
            }
        }

        void begin(int side) {
            for (int v = 0; v < vertices; v++) {
                if (player[v] == side) {
                    choice[v] = fixed[v] == -1 ? firstFrom(v) : fixed[v];
                }
            }
        }

        boolean next(int side) {
            for (int v = 0; v < vertices; v++) {
                if (player[v] == side && fixed[v] == -1) {
                    choice[v] = nextFrom(v, choice[v]);
                    if (choice[v] != -1) {
                        return true;
                    }
                    choice[v] = firstFrom(v);
                }
            }
            return false;
        }

        void lowerWorst() {
            for (int v = 0; v < vertices; v++) {
                int at = v;
                for (int i = 0; i < vertices; i++) {
                    at = to[choice[at]];
                }
                int start = at;
                int sum = 0;
                int length = 0;
                do {
                    sum += weight[choice[at]];
                    length++;
                    at = to[choice[at]];
                } while (at != start);
                if (sum * worstBottom[v] < worstTop[v] * length) {
                    worstTop[v] = sum;
                    worstBottom[v] = length;
                }
            }
        }

        void reduce(int v) {
            for (int d = bottom[v]; d > 1; d--) {
                if (top[v] % d == 0 && bottom[v] % d == 0) {
                    top[v] /= d;
                    bottom[v] /= d;
                }
            }
        }

        /** In the game for a side with what passes p / q; what needs more than any simple path is TOP. */
        int[] credits(int side, int p, int q) {
            int[] need = new int[vertices];
            int bound = 0;
            for (int e = 0; e < edges; e++) {
                bound = Math.max(bound, vertices * Math.abs(q * weight[e] - p));
            }
            boolean changed = true;
            while (changed) {
                changed = false;
                for (int v = 0; v < vertices; v++) {
                    int now = -1;
                    for (int e = 0; e < edges; e++) {
                        if (leads(e, v)) {
                            int w = (q * weight[e] - p) * (side == 0 ? 1 : -1);
                            int one = need[to[e]] == TOP ? TOP : Math.max(0, need[to[e]] - w);
                            one = one > bound ? TOP : one;
                            boolean takes = now == -1 || (player[v] == side ? one < now : one > now);
                            now = takes ? one : now;
                        }
                    }
                    if (now != need[v]) {
                        need[v] = now;
                        changed = true;
                    }
                }
            }
            return need;
        }

        int best(int v) {
            int sign = player[v] == 0 ? 1 : -1;
            int[] need = credits(player[v], top[v], bottom[v]);
            for (int e = 0; e < edges; e++) {
                int w = sign * (bottom[v] * weight[e] - top[v]);
                if (leads(e, v) && need[to[e]] != TOP && need[v] + w >= need[to[e]]) {
                    return e;
                }
            }
            return -2;
        }

        int settle(int side) {
            findValues();
            int[] chosen = new int[vertices];
            int count = 0;
            for (int v = 0; v < vertices; v++) {
                chosen[v] = player[v] == side && fixed[v] == -1 ? best(v) : -1;
            }
            for (int v = 0; v < vertices; v++) {
                if (chosen[v] != -1) {
                    fixed[v] = chosen[v];
                    count++;
                }
            }
            return count;
        }

        int[] walk(int v) {
            int[] came = new int[vertices];
            int[] sums = new int[vertices];
            java.util.Arrays.fill(came, -1);
            int at = v;
            int steps = 0;
            int sum = 0;
            while (came[at] == -1) {
                came[at] = steps++;
                sums[at] = sum;
                int e = best(at);
                sum += weight[e];
                at = to[e];
            }
            int length = steps - came[at];
            int loop = sum - sums[at];
            if (loop * bottom[v] != top[v] * length) {
                due(-2, "average of the oracle's own loop", loop, top[v]);
            }
            return new int[] {came[at], length, loop, at};
        }
    }
}
