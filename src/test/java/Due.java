/** Compares answers with those that are due; a test's main method ends with end(). */
final class Due {
    private static int wrong;
    private static int compared;

    private Due() {
    }

    static void is(String call, long got, long want) {
        compared++;
        if (got != want) {
            wrong++;
            System.out.println(call + " answered " + got + ", due is " + want);
        }
    }

    static void isTrue(String what, boolean holds) {
        is(what, holds ? 1 : 0, 1);
    }

    /** Lays a row of a sort with these elements on a shelf. */
    static void row(MeatForDiamonds x, int d, int sort, int... elements) {
        is("row", x.row(d, sort, elements.length), 0);
        for (int i = 0; i < elements.length; i++) {
            is("put", x.put(d, i, elements[i]), 0);
        }
    }

    /** Tells a text by shelf 7, and empties that shelf. */
    static int tell(MeatForDiamonds x, String text) {
        row(x, 7, 0, text.chars().toArray());
        int answer = x.valley(7);
        x.keep(7, 0, 0, 0);
        return answer;
    }

    /** A new valley with what a text tells, which has to be without fault. */
    static MeatForDiamonds valley(String text) {
        MeatForDiamonds x = new MeatForDiamonds();
        isTrue("text " + text, tell(x, text) > 0);
        return x;
    }

    /** 0 nothing is thrown, 1 IllegalArgumentException, 2 IllegalStateException. */
    static int thrownBy(MeatForDiamonds x, int d, int i) {
        try {
            x.element(d, i);
        } catch (IllegalArgumentException noShelf) {
            return 1;
        } catch (IllegalStateException noElement) {
            return 2;
        }
        return 0;
    }

    static void end() {
        System.out.println(compared + " answers, " + wrong + " wrong");
        if (wrong != 0) {
            System.exit(1);
        }
    }
}
