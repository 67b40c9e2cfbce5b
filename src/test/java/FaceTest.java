import java.lang.reflect.Constructor;
import java.lang.reflect.Field;
import java.lang.reflect.Method;
import java.lang.reflect.Modifier;
import java.util.Arrays;
import java.util.List;
import java.util.Set;
import java.util.TreeSet;

/** The class's face is the document's, and nothing beside it can be seen from outside. */
public final class FaceTest {
    private static final String ARGUMENT = " throws java.lang.IllegalArgumentException";
    private static final String BOTH = ARGUMENT + ",java.lang.IllegalStateException";
    private static final List<String> DUE = List.of(
            "public static final int CreditGame.NONE",
            "public CreditGame()",
            "public int CreditGame.vertex(int)" + BOTH,
            "public int CreditGame.edge(int,int,int)" + BOTH,
            "public void CreditGame.fix(int,int)" + ARGUMENT,
            "public int CreditGame.fixed(int)" + ARGUMENT,
            "public int CreditGame.credit(int)" + BOTH,
            "public boolean CreditGame.reaches(int,int,int)" + BOTH,
            "public int CreditGame.value(int,boolean)" + BOTH,
            "public int CreditGame.best(int)" + BOTH,
            "public int CreditGame.settle(int)" + BOTH,
            "public int CreditGame.walk(int,int)" + BOTH);

    public static void main(String[] args) {
        Set<String> got = new TreeSet<>();
        for (Field f : CreditGame.class.getDeclaredFields()) {
            addIfSeen(got, f.getModifiers(), f.toString());
        }
        for (Constructor<?> c : CreditGame.class.getDeclaredConstructors()) {
            addIfSeen(got, c.getModifiers(), c.toString());
        }
        for (Method m : CreditGame.class.getDeclaredMethods()) {
            addIfSeen(got, m.getModifiers(), m.toString());
        }
        boolean good = got.equals(new TreeSet<>(DUE));
        good &= CreditGame.class.getModifiers() == (Modifier.PUBLIC | Modifier.FINAL);
        good &= namesApart() && statesHeldInObjects();
        if (!good) {
            System.out.println("the face is " + got);
            System.exit(1);
        }
        System.out.println("the face is the document's");
    }

    private static void addIfSeen(Set<String> seen, int modifiers, String text) {
        if (!Modifier.isPrivate(modifiers)) {
            seen.add(text);
        }
    }

    /** No private method, of an inner class either, has the name of a public one. */
    private static boolean namesApart() {
        Set<String> names = new TreeSet<>();
        for (Method m : CreditGame.class.getMethods()) {
            names.add(m.getName());
        }
        boolean apart = true;
        for (Class<?> c : allClasses()) {
            for (Method m : c.getDeclaredMethods()) {
                if (Modifier.isPrivate(m.getModifiers()) && names.contains(m.getName())) {
                    System.out.println("private and public: " + m.getName());
                    apart = false;
                }
            }
        }
        return apart;
    }

    private static boolean statesHeldInObjects() {
        boolean held = true;
        for (Class<?> c : allClasses()) {
            for (Field f : c.getDeclaredFields()) {
                if (Modifier.isStatic(f.getModifiers()) && !Modifier.isFinal(f.getModifiers())) {
                    System.out.println("static and not final: " + f);
                    held = false;
                }
            }
        }
        return held;
    }

    private static List<Class<?>> allClasses() {
        Class<?>[] inner = CreditGame.class.getDeclaredClasses();
        Class<?>[] all = Arrays.copyOf(inner, inner.length + 1);
        all[inner.length] = CreditGame.class;
        return Arrays.asList(all);
    }
}
