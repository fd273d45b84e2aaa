import java.util.function.IntToLongFunction;

/** Compares answers with those that are due; a test's main method ends with end(). */
final class Due {
    private static final int[] FAR_OUT = {Integer.MIN_VALUE, Integer.MAX_VALUE};
    private static int wrong;
    private static int compared;

    private Due() {
    }

    static void is(String call, long got, long want) {
        compared++;
        if (got != want) {
            wrong++;
            System.out.println(call + " answered " + got + ", due is " + want);
        }
    }

    static void isTrue(String what, boolean holds) {
        is(what, holds ? 1 : 0, 1);
    }

    /** A number's range in a call: least and most are not refused, what lies just outside is, and far out too. */
    static void range(String call, IntToLongFunction number, int least, int most, long refusal) {
        isTrue(call + " takes " + least, number.applyAsLong(least) != refusal);
        isTrue(call + " takes " + most, number.applyAsLong(most) != refusal);
        outside(call, number, least, most, refusal);
    }

    /** What lies just outside a range is refused, and far out too. */
    static void outside(String call, IntToLongFunction number, int least, int most, long refusal) {
        is(call + " of " + (least - 1), number.applyAsLong(least - 1), refusal);
        is(call + " of " + (most + 1), number.applyAsLong(most + 1), refusal);
        for (int v : FAR_OUT) {
            is(call + " of " + v, number.applyAsLong(v), refusal);
        }
    }

    /** All is as it was told before: a refused call, and one in mind, changes nothing. */
    static void unchanged(MeatForDiamonds x, String before) {
        String after = Told.all(x);
        isTrue("unchanged:\n" + before + "\n" + after, after.equals(before));
    }

    /** Lays a row of a sort with these elements on a shelf. */
    static void row(MeatForDiamonds x, int d, int sort, int... elements) {
        is("row", x.row(d, sort, elements.length), 0);
        for (int i = 0; i < elements.length; i++) {
            is("put", x.put(d, i, elements[i]), 0);
        }
    }

    /** Lays a row of bytes with this text on a shelf. */
    static void text(MeatForDiamonds x, int d, String text) {
        row(x, d, 0, text.chars().toArray());
    }

    /** Tells a text by shelf 7, and empties that shelf. */
    static int tell(MeatForDiamonds x, String text) {
        text(x, 7, text);
        int answer = x.valley(7);
        x.keep(7, 0, 0, 0);
        return answer;
    }

    /** A new valley with what a text tells, which has to be without fault. */
    static MeatForDiamonds valley(String text) {
        MeatForDiamonds x = new MeatForDiamonds();
        isTrue("text " + text, tell(x, text) > 0);
        return x;
    }

    /** 0 nothing is thrown, 1 IllegalArgumentException, 2 IllegalStateException. */
    static int thrownBy(MeatForDiamonds x, int d, int i) {
        try {
            x.element(d, i);
        } catch (IllegalArgumentException noShelf) {
            return 1;
        } catch (IllegalStateException noElement) {
            return 2;
        }
        return 0;
    }

    static void end() {
        System.out.println(compared + " answers, " + wrong + " wrong");
        if (wrong != 0) {
            System.exit(1);
        }
    }
}
