import java.lang.reflect.InvocationTargetException;
import java.lang.reflect.Method;
import java.util.Arrays;
import java.util.Comparator;

/** All promises: each call with every combination of numbers at the edges, compared with PlainModel's answers. */
public final class EdgeGridTest {
    private static final int CALLS_ON_ONE = 512;
    private static final int CALLS_TO_LOOK = 80;
    private static final int MIN = Integer.MIN_VALUE;
    private static final int MAX = Integer.MAX_VALUE;
    /** The fewer numbers a call takes, the more of them are tried. */
    private static final int[][] NUMBERS = {
        {},
        {MIN, MIN + 1, -2, -1, 0, 1, 2, 3, 4, 5, 6, 7, 8, 9, 10, 12, 13, 20, 30, 39, 40, 59, 60, 61, 62, MAX - 1, MAX},
        {MIN, -2, -1, 0, 1, 2, 3, 4, 5, 6, 7, 8, 9, 10, 19, 20, 21, 22, 23, 24, 99, 100, 101, MAX},
        {MIN, -1, 0, 1, 2, 3, 4, 5, 6, 7, 8, 19, 20, 21, 100, 101, MAX},
        {MIN, -1, 0, 1, 2, 4, 5, 7, 8, 9, 10, MAX},
        {-1, 0, 1, 3, 4, 5, 7, 8, MAX}};
    private static final String[][] VALLEYS = {
        {},
        {"c0236;c4117;c7990;e1043;e2050;s06;s69;s39;s70;"},
        {"c0990;c1009;c4903;e0790;e2031;e0112;e3063;s00;s11;s29;s39;s49;s59;s69;d1;h17;"},
        {"c0929;c3239;c7239;e0390;e3000;s70;s06;d1;t00;t00;t00;t00;t00;d0;h05;"}};

    private final Method[] face = MeatForDiamonds.class.getMethods();
    private final String[] texts;
    private MeatForDiamonds x;
    private PlainModel model;
    private int calls;

    private EdgeGridTest(String[] texts) {
        this.texts = texts;
        Arrays.sort(face, Comparator.comparing(Method::getName));
    }

    public static void main(String[] args) throws ReflectiveOperationException {
        for (String[] texts : VALLEYS) {
            EdgeGridTest test = new EdgeGridTest(texts);
            for (Method m : test.face) {
                if (m.getDeclaringClass() == MeatForDiamonds.class) {
                    test.startAnew();
                    test.allOf(m);
                    test.look();
                }
            }
        }
        Due.end();
    }

    private void startAnew() throws ReflectiveOperationException {
        x = new MeatForDiamonds();
        model = new PlainModel();
        calls = 0;
        for (String text : texts) {
            row(7, 0, text.chars().toArray());
            both("valley", 7);
        }
        row(0, 0, 15, 0, -128);
        row(1, 1, 15, 7, -32768, 1);
        row(2, 2, 15, 15, 15, 3, MIN);
        row(3, 0, 'd', '1', ';');
        both("keep", 4, 1, 3, 4);
        both("keep", 5, 1, 7, 9);
    }

    private void row(int d, int sort, int... elements) throws ReflectiveOperationException {
        both("row", d, sort, elements.length);
        for (int i = 0; i < elements.length; i++) {
            both("put", d, i, elements[i]);
        }
    }

    private void allOf(Method m) throws ReflectiveOperationException {
        int[] numbers = NUMBERS[m.getParameterCount()];
        int combinations = 1;
        for (int i = 0; i < m.getParameterCount(); i++) {
            combinations *= numbers.length;
        }
        for (int i = 0; i < combinations; i++) {
            if (calls > CALLS_ON_ONE - CALLS_TO_LOOK) {
                look();
                startAnew();
            }
            Object[] arguments = new Object[m.getParameterCount()];
            int rest = i;
            for (int a = 0; a < arguments.length; a++) {
                arguments[a] = numbers[rest % numbers.length];
                rest /= numbers.length;
            }
            both(m, arguments);
        }
    }

    /** All there is, to see that what was refused changed nothing. */
    private void look() throws ReflectiveOperationException {
        for (int what = 0; what < 8; what++) {
            both("count", what);
        }
        for (int i = 0; i < 8; i++) {
            both("cellOf", i, 0);
            both("cellOf", i, 1);
            both("cellOf", i, 2);
            both("eagle", i, 1);
            both("eagle", i, 3);
            both("nest", i);
            both("sheep", i, 0);
            both("cost", i);
        }
    }

    private void both(String name, Object... arguments) throws ReflectiveOperationException {
        for (Method m : face) {
            if (m.getName().equals(name)) {
                both(m, arguments);
            }
        }
    }

    private void both(Method m, Object... arguments) throws ReflectiveOperationException {
        calls++;
        Method other = PlainModel.class.getMethod(m.getName(), m.getParameterTypes());
        long want = answer(other, model, arguments);
        Due.is(m.getName() + Arrays.toString(arguments) + " in " + Arrays.toString(texts), answer(m, x, arguments), want);
    }

    /** The exceptions of element are told as numbers that no element of these rows is. */
    private static long answer(Method m, Object on, Object[] arguments) throws ReflectiveOperationException {
        try {
            return ((Number) m.invoke(on, arguments)).longValue();
        } catch (InvocationTargetException thrown) {
            Class<?> kind = thrown.getCause().getClass();
            Due.isTrue(m.getName() + " throws " + kind, m.getName().equals("element")
                && (kind == IllegalArgumentException.class || kind == IllegalStateException.class));
            return kind == IllegalArgumentException.class ? -1001 : -1002;
        }
    }
}
