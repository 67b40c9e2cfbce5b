import java.util.Random;

/** Objects of 512 calls with any arguments: nothing but the two exceptions of the document comes out. */
public final class WildTest {
    private static final int[] ODD = {Integer.MIN_VALUE, -100, -99, -10, -9, -2, -1, 0, 1, 2, 7, 8, 9, 10, 23, 24,
            25, 99, 100, Integer.MAX_VALUE};
    private static final Random RANDOM = new Random(7);

    public static void main(String[] args) {
        int wrong = 0;
        for (int object = 0; object < 400; object++) {
            CreditGame game = new CreditGame();
            int shy = 1 + object % 8;
            for (int call = 0; call < 512; call++) {
                int which = RANDOM.nextInt(10);
                try {
                    doCall(game, which, shy);
                } catch (RuntimeException e) {
                    if (!isNamed(e, which)) {
                        wrong++;
                        System.out.println("object " + object + ", call " + call + ", kind " + which + ": " + e);
                    }
                }
            }
        }
        if (wrong > 0) {
            System.exit(1);
        }
        System.out.println("no call threw by itself");
    }

    private static boolean isNamed(RuntimeException e, int which) {
        boolean argument = e.getClass() == IllegalArgumentException.class;
        boolean state = e.getClass() == IllegalStateException.class && which != 2 && which != 3;
        return argument || state;
    }

    private static int any(int below, int shy) {
        return RANDOM.nextInt(20 * shy) == 0 ? ODD[RANDOM.nextInt(ODD.length)] : RANDOM.nextInt(below);
    }

    private static void doCall(CreditGame game, int which, int shy) {
        switch (which) {
            case 0 -> game.vertex(any(2, shy));
            case 1 -> game.edge(any(7, shy), any(7, shy), any(19, shy) - 9);
            case 2 -> game.fix(any(7, shy), any(25, shy) - 1);
            case 3 -> game.fixed(any(7, shy));
            case 4 -> game.credit(any(7, shy));
            case 5 -> game.reaches(any(7, shy), any(199, shy) - 99, any(10, shy));
            case 6 -> game.value(any(7, shy), RANDOM.nextBoolean());
            case 7 -> game.best(any(7, shy));
            case 8 -> game.settle(any(2, shy * 5));
            default -> game.walk(any(7, shy), any(4, shy));
        }
    }
}
