import java.lang.reflect.Constructor;
import java.lang.reflect.Field;
import java.lang.reflect.Method;
import java.lang.reflect.Modifier;
import java.util.Arrays;
import java.util.TreeSet;

/** The public face is the document's, and nothing else of the class can be seen. */
public final class FaceTest {
    private static final String[] FACE = {
        "int valley(int)", "int cellOf(int,int)", "int eagle(int,int)", "int sheep(int,int)", "int nest(int)", "int buys(int)",
        "int lays(int,int,int,int)", "int set(int,int)", "int throwsOne(int,int)", "int waits(int)", "int brings(int,int,int)",
        "int bestCell(int)", "int bestThrow()", "int gain()", "int bestHour(int,int,int)", "int twoThrows(int)",
        "int greedily(int,int)", "int drum(int,int,int,int)", "int lifts(int,int)", "int man(int)", "int safe(int)",
        "int noon()", "int left(int)", "int still(int,int,int)", "int tellsMost(int,int,int)", "int whose(int,int)",
        "long mean(int,int)", "int merchants(int)", "int quarrel(int)", "int forged(int,int)", "int judge(int,int,int)",
        "int seasons(int,int,int)", "int image()", "int restore()", "int count(int)", "int keep(int,int,int,int)",
        "int row(int,int,int)", "int put(int,int,int)", "long element(int,int)", "int copy(int,int,int,int,int)",
        "int cost(int)", "int toss(int)"};

    private FaceTest() {
    }

    public static void main(String[] args) throws ReflectiveOperationException {
        Class<?> face = MeatForDiamonds.class;
        Due.isTrue("public and final", Modifier.isPublic(face.getModifiers()) && Modifier.isFinal(face.getModifiers()));
        Due.isTrue("no class above it", face.getSuperclass() == Object.class && face.getInterfaces().length == 0);
        methods(face);
        for (Constructor<?> made : face.getDeclaredConstructors()) {
            Due.isTrue("the constructor", Modifier.isPublic(made.getModifiers()) && made.getParameterCount() == 0);
        }
        for (Field field : face.getDeclaredFields()) {
            Due.isTrue(field.getName() + " is private", Modifier.isPrivate(field.getModifiers()));
            fieldIsNoStaticState(field);
        }
        for (Class<?> inside : face.getDeclaredClasses()) {
            Due.isTrue(inside.getName() + " is static, not public", Modifier.isStatic(inside.getModifiers())
                && !Modifier.isPublic(inside.getModifiers()) && !Modifier.isProtected(inside.getModifiers()));
            Arrays.stream(inside.getDeclaredFields()).forEach(FaceTest::fieldIsNoStaticState);
        }
        Class<?>[] thrown = face.getMethod("element", int.class, int.class).getExceptionTypes();
        Due.isTrue("element's exceptions", Arrays.equals(thrown,
            new Class<?>[] {IllegalArgumentException.class, IllegalStateException.class}));
        Due.end();
    }

    private static void methods(Class<?> face) {
        TreeSet<String> due = new TreeSet<>(Arrays.asList(FACE));
        TreeSet<String> names = new TreeSet<>();
        for (Method m : face.getDeclaredMethods()) {
            if (!Modifier.isPrivate(m.getModifiers())) {
                StringBuilder told = new StringBuilder(m.getReturnType() + " " + m.getName() + "(");
                for (Class<?> type : m.getParameterTypes()) {
                    told.append(told.charAt(told.length() - 1) == '(' ? "" : ",").append(type);
                }
                Due.isTrue("in the face: " + told, due.remove(told.append(")").toString()));
                names.add(m.getName());
            }
        }
        Due.isTrue("all of the face is there, but " + due, due.isEmpty());
        for (Method m : face.getDeclaredMethods()) {
            Due.isTrue(m.getName() + " is a private one's name too",
                !Modifier.isPrivate(m.getModifiers()) || !names.contains(m.getName()));
        }
    }

    private static void fieldIsNoStaticState(Field field) {
        Due.isTrue(field + " is no static state", !Modifier.isStatic(field.getModifiers())
            || Modifier.isFinal(field.getModifiers()) && field.getType() == int.class);
    }
}
