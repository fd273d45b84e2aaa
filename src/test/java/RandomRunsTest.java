import java.lang.reflect.InvocationTargetException;
import java.lang.reflect.Method;
import java.util.Arrays;
import java.util.Comparator;
import java.util.HashMap;
import java.util.Map;
import java.util.Random;
import java.util.TreeMap;

/** All promises: runs of calls by fixed seeds, each call's answer compared with PlainModel's. */
public final class RandomRunsTest {
    private static final int RUNS = 1500;
    private static final int CALLS = 512;
    private static final int[] EXTREMES = {-1, -2, 8, 10, 24, 61, 100, 101, 128, Integer.MAX_VALUE, Integer.MIN_VALUE};

    private final Random random;
    private final Method[] face;
    private final Map<String, Method> models;
    private final Map<String, Integer> answered;
    private final MeatForDiamonds x = new MeatForDiamonds();
    private final PlainModel model = new PlainModel();
    private int calls;

    private RandomRunsTest(long seed, Map<String, Integer> answered) throws ReflectiveOperationException {
        random = new Random(seed);
        this.answered = answered;
        face = MeatForDiamonds.class.getMethods();
        Arrays.sort(face, Comparator.comparing(Method::getName));
        models = new HashMap<>();
        for (Method m : face) {
            if (m.getDeclaringClass() == MeatForDiamonds.class) {
                models.put(m.getName(), PlainModel.class.getMethod(m.getName(), m.getParameterTypes()));
            }
        }
    }

    public static void main(String[] args) throws ReflectiveOperationException {
        Map<String, Integer> answered = new TreeMap<>();
        for (int seed = 0; seed < RUNS; seed++) {
            new RandomRunsTest(seed, answered).run(seed);
        }
        for (Method m : MeatForDiamonds.class.getMethods()) {
            if (m.getDeclaringClass() == MeatForDiamonds.class) {
                Due.isTrue(m.getName() + " was answered often", answered.getOrDefault(m.getName(), 0) > 500);
            }
        }
        Due.end();
    }

    private void run(int seed) throws ReflectiveOperationException {
        if (seed % 8 != 0) {
            tell(valleyText());
        }
        while (calls < CALLS) {
            int choice = random.nextInt(100);
            if (choice == 0) {
                tell(random.nextBoolean() ? valleyText() : spoilt(valleyText()));
            } else if (choice < 5) {
                toldRow();
            } else if (choice < 7) {
                keptSheep();
            } else {
                anyCall();
            }
        }
    }

    private void anyCall() throws ReflectiveOperationException {
        Method m = face[random.nextInt(face.length)];
        if (models.containsKey(m.getName())) {
            Object[] arguments = new Object[m.getParameterCount()];
            for (int i = 0; i < arguments.length; i++) {
                arguments[i] = number(m.getName(), i);
            }
            both(m, arguments);
        }
    }

    private int number(String call, int i) {
        int kind = random.nextInt(60);
        if (kind == 0) {
            return EXTREMES[random.nextInt(EXTREMES.length)];
        }
        if (kind == 1) {
            return random.nextInt();
        }
        return switch (call + i) {
            case "set1" -> random.nextInt(25);
            case "waits0" -> random.nextInt(62);
            case "man0" -> random.nextInt(62);
            case "greedily0", "seasons0" -> random.nextInt(22);
            case "seasons1", "put2" -> random.nextInt(2) == 0 ? random.nextInt() : random.nextInt(20);
            case "whose1" -> random.nextInt(25) - 1;
            case "row2" -> random.nextInt(20) == 0 ? 95 + random.nextInt(8) : random.nextInt(9) - 1;
            case "lays1", "lays2", "lays3", "keep3" -> random.nextInt(10);
            case "count0" -> random.nextInt(9);
            case "drum2" -> random.nextInt(10);
            case "keep1", "set0" -> random.nextInt(2);
            case "row1" -> random.nextInt(3);
            case "mean1", "twoThrows0", "drum3", "bestHour2", "tellsMost2", "seasons2", "left0", "lifts1", "greedily1" ->
                random.nextInt(20) == 0 ? 2 : random.nextInt(2);
            default -> random.nextInt(12) == 0 ? random.nextInt(9) : random.nextInt(5);
        };
    }

    private void call(String name, Object... arguments) throws ReflectiveOperationException {
        for (Method m : face) {
            if (m.getName().equals(name) && models.containsKey(name)) {
                both(m, arguments);
            }
        }
    }

    private void both(Method m, Object[] arguments) throws ReflectiveOperationException {
        calls++;
        long want = answer(models.get(m.getName()), model, arguments);
        long got = answer(m, x, arguments);
        Due.is(m.getName() + Arrays.toString(arguments), got, want);
        if (want >= 0) {
            answered.merge(m.getName(), 1, Integer::sum);
        }
    }

    private static long answer(Method m, Object on, Object[] arguments) throws ReflectiveOperationException {
        try {
            return ((Number) m.invoke(on, arguments)).longValue();
        } catch (InvocationTargetException thrown) {
            Class<?> kind = thrown.getCause().getClass();
            Due.isTrue(m.getName() + " throws " + kind, m.getName().equals("element")
                && (kind == IllegalArgumentException.class || kind == IllegalStateException.class));
            return kind == IllegalArgumentException.class ? -1001 : -1002;
        }
    }

    private void tell(String text) throws ReflectiveOperationException {
        int d = random.nextInt(8);
        call("row", d, 0, text.length());
        for (int i = 0; i < text.length(); i++) {
            call("put", d, i, (int) text.charAt(i));
        }
        call("valley", d);
    }

    /** A row that tells throws as they come, now and then one otherwise, looked at by all calls that read one. */
    private void toldRow() throws ReflectiveOperationException {
        int d = random.nextInt(8);
        int s = random.nextInt(7);
        int c = random.nextInt(5);
        int size = random.nextInt(6);
        call("image");
        int sort = random.nextInt(3);
        call("row", d, sort, size);
        for (int i = 0; i < size; i++) {
            int brought = model.brings(s, c, 0);
            call("throwsOne", s, c);
            boolean asItCame = random.nextInt(12) != 0;
            call("put", d, i, asItCame ? brought : random.nextBoolean() ? Integer.MIN_VALUE : -128);
        }
        call("restore");
        call("judge", s, c, d);
        call("forged", s, d);
        for (int what = 0; what < 3; what++) {
            call("still", s, d, what);
            call("tellsMost", s, d, what);
        }
        copies(d, sort, size);
    }

    private void keptSheep() throws ReflectiveOperationException {
        int d = random.nextInt(8);
        call("keep", d, 1, random.nextInt(8), random.nextInt(10));
        call("cost", d);
        call("toss", d);
        call("buys", d);
    }

    private void copies(int d, int sort, int size) throws ReflectiveOperationException {
        int e = (d + 1) % 8;
        call("row", e, random.nextInt(9) == 0 ? random.nextInt(3) : sort, 5);
        for (int to = d; to <= d + 1; to++) {
            call("copy", d, random.nextInt(3), to % 8, random.nextInt(3), random.nextInt(size + 1));
        }
        for (int i = 0; i < 5; i++) {
            call("element", d, i);
            call("element", e, i);
        }
    }

    private String valleyText() {
        StringBuilder text = new StringBuilder();
        int statements = 1 + random.nextInt(18);
        for (int i = 0; i < statements && text.length() < 94; i++) {
            switch (random.nextInt(12)) {
                case 0, 1, 2 -> text.append('c').append(random.nextInt(8)).append(1 + random.nextInt(9))
                    .append(random.nextInt(10)).append(random.nextInt(10)).append(';');
                case 3, 4 -> text.append('e').append(random.nextInt(3)).append(1 + random.nextInt(9))
                    .append(random.nextInt(10)).append(random.nextInt(4)).append(';');
                case 5, 6, 7 -> text.append('s').append(random.nextInt(8)).append(random.nextInt(10)).append(';');
                case 8 -> text.append('d').append(random.nextInt(2)).append(';');
                case 9 -> text.append('h').append(random.nextInt(6)).append(random.nextInt(10)).append(';');
                default -> text.append('t').append(random.nextInt(2)).append(random.nextInt(3)).append(';');
            }
        }
        return text.toString();
    }

    private String spoilt(String text) {
        StringBuilder spoilt = new StringBuilder(text);
        int place = random.nextInt(spoilt.length());
        switch (random.nextInt(4)) {
            case 0 -> spoilt.deleteCharAt(place);
            case 1 -> spoilt.setLength(place);
            case 2 -> spoilt.setCharAt(place, "cesdht;0589x".charAt(random.nextInt(12)));
            default -> spoilt.setCharAt(place, (char) random.nextInt(256));
        }
        return spoilt.toString();
    }
}
