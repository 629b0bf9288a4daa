import java.lang.reflect.InvocationTargetException;
import java.lang.reflect.Method;
import java.lang.reflect.Modifier;
import java.util.Arrays;
import java.util.Comparator;
import java.util.Random;

/** No call throws, in whatever state, by whatever it is told: drawn calls with many numbers at and beyond the bounds. */
public final class NoThrowTest {
    private static final int OBJECTS = 3000;
    private static final int CALLS = 380;
    private static final int[] EDGES = {Integer.MIN_VALUE, Integer.MIN_VALUE + 1, -1000, -2, -1, 0, 1, 2, 3, 4, 5, 6, 7,
        8, 9, 10, 12, 13, 31, 32, 33, 47, 48, 49, 63, 64, 65, 99, 100, 199, 200, 201, 220, 255, 256, 999, 1000, 9999,
        10000, 65535, 65536, Integer.MAX_VALUE};
    private static final String[] LAWS = {
        "g50(1=1);f500(1=1);a999(y>100);c1(m>1);o9-b(1=1);q[b+1]*99/k(1=1)", "gw*s/k%n(!(!(!(1=1))))",
        "f1000(1=1);c1(l=5);o7(1=1)", "a[[[[[[9]]]]]](((((1=1)))))", "q99999*99999*b/[0-1](1/b>0|k%s=0)"};

    private final Random draw = new Random(7);

    private NoThrowTest() {
    }

    public static void main(String[] args) throws Exception {
        Method[] face = Arrays.stream(CliffGarden.class.getDeclaredMethods())
                .filter(m -> Modifier.isPublic(m.getModifiers()))
                .sorted(Comparator.comparing(Method::getName)).toArray(Method[]::new);
        NoThrowTest test = new NoThrowTest();
        for (int i = 0; i < OBJECTS; i++) {
            CliffGarden g = test.garden();
            for (int j = 0; j < CALLS; j++) {
                test.call(g, face[test.draw.nextInt(face.length)]);
            }
        }
        System.out.println(OBJECTS * CALLS + " calls, none threw");
    }

    private CliffGarden garden() {
        CliffGarden g = new CliffGarden();
        for (int c = 0; c < 8; c++) {
            int deep = draw.nextInt(7);
            for (int l = 0; l < deep; l++) {
                g.hang(c, l, draw.nextInt(10), draw.nextInt(10000), draw.nextInt(8), draw.nextInt(4));
                if (draw.nextBoolean()) {
                    g.plant(c, l, draw.nextInt(6), draw.nextInt(201));
                }
            }
            g.valve(c, draw.nextInt(100));
            g.rope(c, draw.nextInt(1000), draw.nextInt(100));
        }
        return g;
    }

    private void call(CliffGarden g, Method m) throws IllegalAccessException {
        if (draw.nextInt(40) == 0) {
            Gardens.lay(g, spoiled(LAWS[draw.nextInt(LAWS.length)]));
        }
        Class<?>[] takes = m.getParameterTypes();
        Object[] told = new Object[takes.length];
        for (int i = 0; i < takes.length; i++) {
            told[i] = takes[i] == long.class ? (Object) bits() : (Object) number();
        }
        try {
            m.invoke(g, told);
        } catch (InvocationTargetException e) {
            System.out.println(m.getName() + Arrays.toString(told) + " threw " + e.getCause());
            System.exit(1);
        }
    }

    private String spoiled(String law) {
        StringBuilder text = new StringBuilder(law);
        if (draw.nextInt(4) == 0) {
            text.setCharAt(draw.nextInt(text.length()), (char) draw.nextInt(256));
        }
        return text.toString();
    }

    private int number() {
        int r = draw.nextInt(20);
        if (r == 0) {
            return draw.nextInt();
        }
        return r < 8 ? EDGES[draw.nextInt(EDGES.length)] : draw.nextInt(9) - 1;
    }

    private long bits() {
        if (draw.nextInt(20) == 0) {
            return draw.nextLong();
        }
        long bits = 0;
        int many = draw.nextInt(10);
        for (int i = 0; i < many; i++) {
            bits |= 1L << draw.nextInt(draw.nextInt(9) == 0 ? 64 : 48);
        }
        return bits;
    }
}
