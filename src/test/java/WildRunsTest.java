import java.lang.reflect.InvocationTargetException;
import java.lang.reflect.Method;
import java.lang.reflect.Modifier;
import java.util.ArrayList;
import java.util.List;
import java.util.Random;

/** No call may ever throw: any arguments, any texts, and far more calls than an object is made for. */
public final class WildRunsTest {
    private static final int[] NUMBERS = {Integer.MIN_VALUE, -1000000, -2, -1, 0, 1, 2, 3, 4, 5, 6,
        10, 30, 60, 80, 100, 149, 150, 200, 245, 299, 300, 600, 650, 1000, 50000, 50001, 100000,
        1000000, Integer.MAX_VALUE};
    private static final String[] TEXTS = {"001 a\n", "245 04$aThe Lakes$bx\n650  0$aMaps\n", "Lakes",
        "n=a* or (t=lakes not s=maps)", "* * 5 2 9 100 999\n", "0 1 0123456 1\n1 0 3 9\n",
        "every 1 skip 0,5 volume 3", "every 366", "9.5 AB", "245 must\n650 has a\n001 most 5\n",
        "n=a* or t=l*\nset 245 b y\nadd 650  0$aSeas\n", "n=a*\ndel 001\nadd 001 b\nadd 001 a\n",
        "650 0 Maps\n245 3 x\n", "L 1 1 #1", "B 1 2 #2", "R 1 #3", "H 2 1 3 #4", "U 2 1 #5",
        "P 1 5 #6", ""};
    private static final List<Method> FACE = new ArrayList<>();

    public static void main(String[] args) throws ReflectiveOperationException {
        for (Method method : LibraryHouse.class.getDeclaredMethods()) {
            if (Modifier.isPublic(method.getModifiers())) {
                FACE.add(method);
            }
        }
        FACE.sort(java.util.Comparator.comparing(Method::getName));
        int wrong = 0;
        for (int seed = 0; seed < 60; seed++) {
            wrong += run(new Random(seed), seed) ? 0 : 1;
        }
        System.out.println("60 wild runs, " + wrong + " of them threw");
        if (wrong > 0) {
            System.exit(1);
        }
    }

    private static boolean run(Random random, int seed) throws ReflectiveOperationException {
        LibraryHouse house = new LibraryHouse();
        for (int i = 0; i < 4000; i++) {
            if (random.nextInt(3) == 0) {
                feed(house, random);
            }
            Method method = FACE.get(random.nextInt(FACE.size()));
            boolean rewinds = method.getName().equals("power") || method.getName().equals("done");
            if (rewinds && random.nextInt(40) != 0) {
                continue;
            }
            Object[] given = new Object[method.getParameterCount()];
            for (int k = 0; k < given.length; k++) {
                given[k] = method.getParameterTypes()[k] == boolean.class ? random.nextBoolean()
                        : random.nextInt(3) == 0 ? (Object) NUMBERS[random.nextInt(NUMBERS.length)]
                        : (Object) random.nextInt(8);
            }
            try {
                method.invoke(house, given);
            } catch (InvocationTargetException thrown) {
                System.out.println("seed " + seed + ", call " + i + ", " + method.getName()
                        + java.util.Arrays.toString(given) + ": " + thrown.getCause());
                return false;
            }
        }
        return true;
    }

    private static void feed(LibraryHouse house, Random random) {
        String text = TEXTS[random.nextInt(TEXTS.length)];
        if (random.nextInt(10) == 0 && !text.isEmpty()) {
            int at = random.nextInt(text.length());
            text = text.substring(0, at) + (char) random.nextInt(256) + text.substring(at);
        }
        house.end(random.nextInt(30) == 0 ? 5 : 0);
        Texts.feed(house, text);
    }
}
