/** The edges of promises 37 to 43: shelves. */
public final class ShelvesEdgesTest {
    private static final int MIN = Integer.MIN_VALUE;
    private static final int MAX = Integer.MAX_VALUE;

    private ShelvesEdgesTest() {
    }

    public static void main(String[] args) {
        keepRanges();
        keepNothing();
        keepInPlaceOfAnother();
        rowRanges();
        rowBelowZero();
        rowOfNoneAndOfAHundred();
        rowIsZeroAtFirst();
        putRefusedInOrder();
        putPlaces();
        putKeepsTheLowestBits();
        elementShelves();
        elementPlaces();
        elementOfNoRow();
        elementAfterAThrow();
        copyShelves();
        copyOfWhatIsNotHeld();
        copyOfOtherKinds();
        copyPlaces();
        copyOfNone();
        copyOfAHundred();
        copyWithinOneRow();
        copyChangesNothingElse();
        costRefused();
        costOfEveryOne();
        tossRefused();
        tossOfEveryOne();
        tossOfNone();
        shelvesApart();
        Due.end();
    }

    /** Promise 37: "-1". */
    private static void keepRanges() {
        MeatForDiamonds x = new MeatForDiamonds();
        for (int d = 0; d < 8; d++) {
            x.keep(d, 1, 3, 4);
        }
        String before = Told.all(x);
        Due.outside("keep(d, 1, 0, 0)", d -> x.keep(d, 1, 0, 0), 0, 7, -1);
        Due.outside("keep(d, 0, 0, 0)", d -> x.keep(d, 0, 0, 0), 0, 7, -1);
        Due.outside("keep(0, what, 0, 0)", what -> x.keep(0, what, 0, 0), 0, 1, -1);
        Due.outside("keep(0, 1, k, 0)", k -> x.keep(0, 1, k, 0), 0, 7, -1);
        Due.outside("keep(0, 1, 0, figure)", figure -> x.keep(0, 1, 0, figure), 0, 9, -1);
        Due.is("all wrong", x.keep(8, 2, 8, 10), -1);
        Due.unchanged(x, before);
        Due.range("keep(d, 1, 0, 0)", d -> x.keep(d, 1, 0, 0), 0, 7, -1);
        Due.range("keep(0, what, 0, 0)", what -> x.keep(0, what, 0, 0), 0, 1, -1);
        Due.range("keep(0, 1, k, 0)", k -> x.keep(0, 1, k, 0), 0, 7, -1);
        Due.range("keep(0, 1, 0, figure)", figure -> x.keep(0, 1, 0, figure), 0, 9, -1);
    }

    /** "what = 0 nothing (the others do not matter)". */
    private static void keepNothing() {
        MeatForDiamonds x = new MeatForDiamonds();
        int[] others = {MIN, -1, 0, 8, 10, MAX};
        for (int other : others) {
            x.keep(7, 1, 0, 9);
            Due.is("a sheep", x.cost(7), 3);
            Due.is("k " + other, x.keep(7, 0, other, 0), 0);
            Due.is("nothing", x.cost(7), -11);
            x.row(7, 0, 5);
            Due.is("figure " + other, x.keep(7, 0, 0, other), 0);
            Due.is("nothing", x.put(7, 0, 0), -11);
            Due.is("nothing already", x.keep(7, 0, other, other), 0);
            Due.is("nothing", x.toss(7), -11);
        }
    }

    private static void keepInPlaceOfAnother() {
        MeatForDiamonds x = new MeatForDiamonds();
        x.row(3, 2, 100);
        Due.is("a sheep in place of a row", x.keep(3, 1, 2, 1), 0);
        Due.is("it is there", x.cost(3), 4);
        Due.is("the row is not", x.put(3, 0, 1), -12);
        Due.is("another in place of it", x.keep(3, 1, 2, 2), 0);
        Due.is("it is there", x.cost(3), 5);
        Due.is("a row in place of it", x.row(3, 0, 1), 0);
        Due.is("it is not there", x.cost(3), -12);
    }

    /** Promise 38: "-1 (n above 100); -14". */
    private static void rowRanges() {
        MeatForDiamonds x = new MeatForDiamonds();
        for (int d = 0; d < 8; d++) {
            Due.row(x, d, 1, d, 9);
        }
        String before = Told.all(x);
        Due.outside("row(d, 0, 1)", d -> x.row(d, 0, 1), 0, 7, -1);
        Due.outside("row(0, sort, 1)", sort -> x.row(0, sort, 1), 0, 2, -1);
        Due.is("row(0, 0, 101)", x.row(0, 0, 101), -1);
        Due.is("row(0, 0, MAX)", x.row(0, 0, MAX), -1);
        Due.unchanged(x, before);
        Due.range("row(d, 0, 1)", d -> x.row(d, 0, 1), 0, 7, -1);
        Due.range("row(0, sort, 1)", sort -> x.row(0, sort, 1), 0, 2, -1);
        Due.is("row(0, 0, 0)", x.row(0, 0, 0), 0);
        Due.is("row(0, 0, 100)", x.row(0, 0, 100), 0);
    }

    /** "-14 a size below 0", told behind -1. */
    private static void rowBelowZero() {
        MeatForDiamonds x = new MeatForDiamonds();
        x.keep(0, 1, 0, 0);
        String before = Told.all(x);
        for (int sort = 0; sort < 3; sort++) {
            Due.is("row(0, sort, -1)", x.row(0, sort, -1), -14);
            Due.is("row(7, sort, MIN)", x.row(7, sort, MIN), -14);
        }
        Due.outside("no such shelf ahead of below 0", d -> x.row(d, 0, -1), 0, 7, -1);
        Due.outside("no such sort ahead of below 0", sort -> x.row(0, sort, -1), 0, 2, -1);
        Due.unchanged(x, before);
    }

    /** "0 .. 100 elements". */
    private static void rowOfNoneAndOfAHundred() {
        MeatForDiamonds x = new MeatForDiamonds();
        for (int sort = 0; sort < 3; sort++) {
            int d = sort;
            Due.is("none", x.row(d, sort, 0), 0);
            Due.outside("no place", i -> x.put(d, i, 1), 0, -1, -13);
            Due.is("a row it is", x.cost(sort), -12);
            Due.is("a hundred", x.row(sort, sort, 100), 0);
            Due.is("the first", x.put(sort, 0, sort + 1), 0);
            Due.is("the last", x.put(sort, 99, sort + 2), 0);
            Due.is("none behind it", x.put(sort, 100, 9), -13);
            Due.is("the first", x.element(sort, 0), sort + 1);
            Due.is("the last", x.element(sort, 99), sort + 2);
        }
    }

    /** "0 at first". */
    private static void rowIsZeroAtFirst() {
        MeatForDiamonds x = new MeatForDiamonds();
        x.row(0, 2, 100);
        for (int i = 0; i < 100; i++) {
            Due.is("0 at first", x.element(0, i), 0);
            x.put(0, i, -1 - i);
        }
        x.row(0, 1, 3);
        x.row(0, 0, 100);
        for (int i = 0; i < 100; i++) {
            Due.is("0 at first", x.element(0, i), 0);
        }
    }

    /** Promise 39: "-1, -11, -12, -13". */
    private static void putRefusedInOrder() {
        MeatForDiamonds x = new MeatForDiamonds();
        x.row(0, 2, 3);
        x.keep(1, 1, 3, 4);
        String before = Told.all(x);
        Due.outside("put(d, 0, 5)", d -> x.put(d, 0, 5), 0, 7, -1);
        Due.outside("no such shelf ahead of no such place", d -> x.put(d, 100, 5), 0, 7, -1);
        Due.is("nothing", x.put(2, 0, 5), -11);
        Due.is("nothing ahead of no such place", x.put(2, -1, 5), -11);
        Due.is("a sheep", x.put(1, 0, 5), -12);
        Due.is("a sheep ahead of no such place", x.put(1, 100, 5), -12);
        Due.outside("put(0, i, 5)", i -> x.put(0, i, 5), 0, 2, -13);
        Due.unchanged(x, before);
    }

    private static void putPlaces() {
        MeatForDiamonds x = new MeatForDiamonds();
        for (int d = 0; d < 8; d += 7) {
            x.row(d, 2, 3);
            int shelf = d;
            Due.range("put(" + d + ", i, 7)", i -> x.put(shelf, i, 7), 0, 2, -13);
            Due.is("the first", x.element(d, 0), 7);
            Due.is("the middle", x.element(d, 1), 0);
            Due.is("the last", x.element(d, 2), 7);
        }
    }

    /** "what is put in keeps its lowest bits". */
    private static void putKeepsTheLowestBits() {
        int[] put = {0, 1, -1, 127, 128, 255, 256, 383, -128, -129, -256, 32767, 32768, 65535, 65536, 98303, -32768, -32769,
            -65536, MAX, MIN, MAX - 1, MIN + 1, 0x12345678};
        MeatForDiamonds x = new MeatForDiamonds();
        for (int sort = 0; sort < 3; sort++) {
            x.row(sort, sort, 1);
            for (int v : put) {
                int bits = new int[] {8, 16, 32}[sort];
                long lowest = v & (1L << bits) - 1;
                Due.is("put " + v, x.put(sort, 0, v), 0);
                Due.is(v + " of SORT " + sort, x.element(sort, 0), lowest >= 1L << bits - 1 ? lowest - (1L << bits) : lowest);
            }
        }
    }

    /** Promise 40: "IllegalArgumentException: no such SHELF". */
    private static void elementShelves() {
        MeatForDiamonds x = new MeatForDiamonds();
        for (int d = 0; d < 8; d++) {
            x.row(d, 0, 1);
            Due.is("a row", Due.thrownBy(x, d, 0), 0);
        }
        int[] none = {-1, 8, MIN, MAX};
        for (int d : none) {
            Due.is("no such SHELF", Due.thrownBy(x, d, 0), 1);
            Due.is("no such SHELF ahead of no such place", Due.thrownBy(x, d, 1), 1);
            Due.is("no such SHELF ahead of no such place", Due.thrownBy(x, d, -1), 1);
        }
    }

    /** "IllegalStateException: no ROW, no such place". */
    private static void elementPlaces() {
        MeatForDiamonds x = new MeatForDiamonds();
        int[] sizes = {0, 1, 2, 99, 100};
        for (int sort = 0; sort < 3; sort++) {
            for (int size : sizes) {
                x.row(sort, sort, size);
                int[] none = {-1, size, size + 1, 100, MIN, MAX};
                for (int i : none) {
                    Due.is("no such place " + i + " of " + size, Due.thrownBy(x, sort, i), 2);
                }
                if (size > 0) {
                    Due.is("the first", Due.thrownBy(x, sort, 0), 0);
                    Due.is("the last", Due.thrownBy(x, sort, size - 1), 0);
                }
            }
        }
    }

    private static void elementOfNoRow() {
        MeatForDiamonds x = new MeatForDiamonds();
        Due.is("nothing at first", Due.thrownBy(x, 0, 0), 2);
        x.row(0, 0, 1);
        x.keep(0, 1, 0, 0);
        Due.is("a sheep", Due.thrownBy(x, 0, 0), 2);
        x.keep(0, 0, 0, 0);
        Due.is("nothing any more", Due.thrownBy(x, 0, 0), 2);
        Due.is("nothing, no such place", Due.thrownBy(x, 0, -1), 2);
    }

    private static void elementAfterAThrow() {
        MeatForDiamonds x = new MeatForDiamonds();
        Due.row(x, 0, 2, MIN, MAX);
        String before = Told.all(x);
        Due.is("thrown", Due.thrownBy(x, 8, 0), 1);
        Due.is("thrown", Due.thrownBy(x, 0, 2), 2);
        Due.unchanged(x, before);
        Due.is("the least", x.element(0, 0), MIN);
        Due.is("the most", x.element(0, 1), MAX);
    }

    /** Promise 41: "-1, -11 (either), -12 (no ROWS of one SORT), -13 (n below 0, too)". */
    private static void copyShelves() {
        MeatForDiamonds x = new MeatForDiamonds();
        Due.row(x, 0, 1, 1, 2, 3);
        Due.row(x, 7, 1, 4, 5, 6);
        String before = Told.all(x);
        Due.outside("copy(d, ..)", d -> x.copy(d, 0, 0, 0, 1), 0, 7, -1);
        Due.outside("copy(.., e, ..)", e -> x.copy(0, 0, e, 0, 1), 0, 7, -1);
        Due.outside("no such shelf ahead of nothing", d -> x.copy(d, 0, 3, 0, 1), 0, 7, -1);
        Due.outside("no such shelf ahead of nothing", e -> x.copy(3, 0, e, 0, 1), 0, 7, -1);
        Due.outside("no such shelf ahead of no such place", d -> x.copy(d, 9, 0, 9, -1), 0, 7, -1);
        Due.unchanged(x, before);
        Due.is("from the last shelf to the first", x.copy(7, 0, 0, 0, 1), 1);
        Due.is("4", x.element(0, 0), 4);
        Due.is("from the first shelf to the last", x.copy(0, 1, 7, 1, 1), 1);
        Due.is("2", x.element(7, 1), 2);
    }

    private static void copyOfWhatIsNotHeld() {
        MeatForDiamonds x = new MeatForDiamonds();
        Due.row(x, 0, 1, 1, 2, 3);
        x.keep(1, 1, 0, 0);
        String before = Told.all(x);
        Due.is("from nothing", x.copy(2, 0, 0, 0, 1), -11);
        Due.is("to nothing", x.copy(0, 0, 2, 0, 1), -11);
        Due.is("from nothing to nothing", x.copy(2, 0, 3, 0, 0), -11);
        Due.is("from nothing to itself", x.copy(2, 0, 2, 0, 0), -11);
        Due.is("nothing ahead of a sheep", x.copy(1, 0, 2, 0, 1), -11);
        Due.is("nothing ahead of a sheep", x.copy(2, 0, 1, 0, 1), -11);
        Due.is("nothing ahead of no such place", x.copy(0, 9, 2, 9, -1), -11);
        Due.unchanged(x, before);
    }

    private static void copyOfOtherKinds() {
        MeatForDiamonds x = new MeatForDiamonds();
        for (int sort = 0; sort < 3; sort++) {
            Due.row(x, sort, sort, 1, 2, 3);
        }
        x.keep(3, 1, 0, 0);
        x.keep(4, 1, 0, 0);
        String before = Told.all(x);
        for (int d = 0; d < 4; d++) {
            for (int e = 0; e < 4; e++) {
                boolean ofOneSort = d == e && d < 3;
                Due.is("copy from " + d + " to " + e, x.copy(d, 0, e, 0, 0), ofOneSort ? 0 : -12);
                Due.is("ahead of no such place", x.copy(d, 0, e, 0, -1), ofOneSort ? -13 : -12);
                Due.is("ahead of no such place", x.copy(d, 4, e, 0, 1), ofOneSort ? -13 : -12);
            }
        }
        Due.is("from a sheep to a sheep", x.copy(3, 0, 4, 0, 0), -12);
        Due.unchanged(x, before);
    }

    private static void copyPlaces() {
        MeatForDiamonds x = new MeatForDiamonds();
        Due.row(x, 0, 2, 1, 2, 3);
        Due.row(x, 1, 2, 4, 5, 6, 7);
        String before = Told.all(x);
        Due.outside("copy(0, i, 1, 0, 1)", i -> x.copy(0, i, 1, 0, 1), 0, 2, -13);
        Due.outside("copy(0, 0, 1, j, 1)", j -> x.copy(0, 0, 1, j, 1), 0, 3, -13);
        Due.outside("copy(0, 0, 1, 0, n)", n -> x.copy(0, 0, 1, 0, n), 0, 3, -13);
        Due.outside("copy(0, 1, 1, 0, n)", n -> x.copy(0, 1, 1, 0, n), 0, 2, -13);
        Due.outside("copy(0, 0, 1, 2, n)", n -> x.copy(0, 0, 1, 2, n), 0, 2, -13);
        Due.outside("copy(1, 0, 0, 0, n)", n -> x.copy(1, 0, 0, 0, n), 0, 3, -13);
        int[][] wrapped = {{MAX, 0, MAX}, {0, MAX, MAX}, {1, 1, MAX}, {MAX, MAX, 2}, {MIN, 0, MIN}, {MAX, 0, 1}, {2, 2, MAX - 1}};
        for (int[] w : wrapped) {
            Due.is("copy(0, " + w[0] + ", 1, " + w[1] + ", " + w[2] + ")", x.copy(0, w[0], 1, w[1], w[2]), -13);
        }
        Due.unchanged(x, before);
        Due.range("copy(0, i, 1, 0, 1)", i -> x.copy(0, i, 1, 0, 1), 0, 2, -13);
        Due.range("copy(0, 0, 1, j, 1)", j -> x.copy(0, 0, 1, j, 1), 0, 3, -13);
        Due.range("copy(0, 0, 1, 0, n)", n -> x.copy(0, 0, 1, 0, n), 0, 3, -13);
        Due.range("copy(0, 1, 1, 2, n)", n -> x.copy(0, 1, 1, 2, n), 0, 2, -13);
    }

    private static void copyOfNone() {
        MeatForDiamonds x = new MeatForDiamonds();
        Due.row(x, 0, 2, 1, 2, 3);
        x.row(1, 2, 0);
        String before = Told.all(x);
        Due.is("from the first", x.copy(0, 0, 1, 0, 0), 0);
        Due.is("from the last", x.copy(0, 2, 1, 0, 0), 0);
        Due.is("from the end", x.copy(0, 3, 1, 0, 0), 0);
        Due.is("to the end", x.copy(1, 0, 0, 3, 0), 0);
        Due.is("from behind the end", x.copy(0, 4, 1, 0, 0), -13);
        Due.is("to behind the end", x.copy(1, 0, 0, 4, 0), -13);
        Due.is("from ahead of the first", x.copy(0, -1, 1, 0, 0), -13);
        Due.is("to ahead of the first", x.copy(1, 0, 0, -1, 0), -13);
        Due.is("one of none", x.copy(1, 0, 0, 0, 1), -13);
        Due.is("one to none", x.copy(0, 0, 1, 0, 1), -13);
        Due.unchanged(x, before);
    }

    private static void copyOfAHundred() {
        MeatForDiamonds x = new MeatForDiamonds();
        x.row(0, 0, 100);
        x.row(1, 0, 100);
        for (int i = 0; i < 100; i++) {
            x.put(0, i, i + 1);
        }
        Due.is("a hundred", x.copy(0, 0, 1, 0, 100), 100);
        Due.is("one more", x.copy(0, 0, 1, 0, 101), -13);
        Due.is("one place on", x.copy(0, 1, 1, 0, 100), -13);
        Due.is("to one place on", x.copy(0, 0, 1, 1, 100), -13);
        for (int i = 0; i < 100; i++) {
            Due.is("element", x.element(1, i), i + 1);
        }
    }

    private static void rowIs(MeatForDiamonds x, int d, long... due) {
        for (int i = 0; i < due.length; i++) {
            Due.is("element(" + d + ", " + i + ")", x.element(d, i), due[i]);
        }
    }

    /** From a ROW to itself, each element as it was ahead of the call. */
    private static void copyWithinOneRow() {
        MeatForDiamonds x = new MeatForDiamonds();
        Due.row(x, 0, 2, 1, 2, 3, 4, 5);
        Due.is("one place on", x.copy(0, 0, 0, 1, 4), 4);
        rowIs(x, 0, 1, 1, 2, 3, 4);
        Due.is("one place back", x.copy(0, 1, 0, 0, 4), 4);
        rowIs(x, 0, 1, 2, 3, 4, 4);
        Due.is("to where it is", x.copy(0, 0, 0, 0, 5), 5);
        rowIs(x, 0, 1, 2, 3, 4, 4);
    }

    private static void copyChangesNothingElse() {
        MeatForDiamonds x = new MeatForDiamonds();
        Due.row(x, 0, 1, 1, 2, 3, 4, 5);
        Due.row(x, 1, 1, 6, 7, 8, 9);
        Due.is("two", x.copy(0, 2, 1, 1, 2), 2);
        rowIs(x, 0, 1, 2, 3, 4, 5);
        rowIs(x, 1, 6, 3, 4, 9);
        x.put(0, 2, 30);
        rowIs(x, 1, 6, 3, 4, 9);
    }

    /** Promise 42: "-1, -11, -12 (a ROW)". */
    private static void costRefused() {
        MeatForDiamonds x = shelvesOfAll();
        Due.outside("cost(d)", x::cost, 0, 7, -1);
        Due.is("the first shelf", x.cost(0), 3);
        Due.is("the last shelf", x.cost(7), 14);
        for (int d = 1; d < 4; d++) {
            Due.is("a ROW", x.cost(d), -12);
        }
        Due.is("nothing", x.cost(4), -11);
        Due.is("nothing any more", x.cost(5), -11);
    }

    /** Shelf 0 and 7 a sheep, 1 to 3 rows, 4 and 5 nothing. */
    private static MeatForDiamonds shelvesOfAll() {
        MeatForDiamonds x = new MeatForDiamonds();
        x.keep(0, 1, 0, 1);
        for (int sort = 0; sort < 3; sort++) {
            x.row(1 + sort, sort, sort);
        }
        x.keep(5, 1, 0, 1);
        x.keep(5, 0, 0, 1);
        x.keep(7, 1, 3, 4);
        return x;
    }

    private static int costDue(int kind, int f) {
        return switch (kind) {
            case 0 -> 3;
            case 1 -> 2;
            case 2 -> 3 + f;
            case 3 -> 6 + 2 * f;
            case 4 -> 6;
            case 5 -> 4 + f;
            default -> 1;
        };
    }

    private static void costOfEveryOne() {
        MeatForDiamonds x = new MeatForDiamonds();
        for (int kind = 0; kind < 8; kind++) {
            for (int f = 0; f < 10; f++) {
                x.keep(kind, 1, kind, f);
                Due.is("cost of " + kind + " " + f, x.cost(kind), costDue(kind, f));
                Due.is("it stays", x.cost(kind), costDue(kind, f));
            }
        }
    }

    /** Promise 43: "-1, -11, -12 (a ROW)". */
    private static void tossRefused() {
        MeatForDiamonds x = shelvesOfAll();
        Due.outside("toss(d)", x::toss, 0, 7, -1);
        Due.is("the first shelf", x.toss(0), 1);
        Due.is("the last shelf", x.toss(7), 214);
        for (int d = 1; d < 4; d++) {
            Due.is("a ROW", x.toss(d), -12);
        }
        Due.is("nothing", x.toss(4), -11);
        Due.is("nothing any more", x.toss(5), -11);
    }

    private static int tossDue(int kind, int f) {
        return switch (f == 0 ? 7 : kind) {
            case 2, 5 -> 100 + f;
            case 3 -> 200 + 2 * (3 + f);
            case 7 -> -15;
            default -> f;
        };
    }

    private static void tossOfEveryOne() {
        MeatForDiamonds x = new MeatForDiamonds();
        for (int kind = 0; kind < 8; kind++) {
            for (int f = 0; f < 10; f++) {
                x.keep(kind, 1, kind, f);
                Due.is("toss of " + kind + " " + f, x.toss(kind), tossDue(kind, f));
                Due.is("caught: it stays", x.toss(kind), tossDue(kind, f));
            }
        }
    }

    /** "-15: BONES, and any with FIGURE 0, have none." */
    private static void tossOfNone() {
        MeatForDiamonds x = new MeatForDiamonds();
        for (int kind = 0; kind < 8; kind++) {
            x.keep(0, 1, kind, 0);
            Due.is("FIGURE 0 of " + kind, x.toss(0), -15);
            x.keep(0, 1, kind, 1);
            Due.is("FIGURE 1 of " + kind, x.toss(0), kind == 7 ? -15 : kind == 3 ? 208 : kind == 2 || kind == 5 ? 101 : 1);
            x.keep(0, 1, 7, kind);
            Due.is("BONE of FIGURE " + kind, x.toss(0), -15);
        }
        x.keep(0, 1, 7, 9);
        Due.is("BONE of FIGURE 9", x.toss(0), -15);
    }

    /** "SHELVES 0 .. 7 each hold": one's change is no other's. */
    private static void shelvesApart() {
        MeatForDiamonds x = new MeatForDiamonds();
        for (int d = 0; d < 8; d++) {
            x.row(d, 1, 2);
            x.put(d, 1, d + 1);
        }
        for (int d = 0; d < 8; d++) {
            Due.is("its own", x.element(d, 1), d + 1);
            Due.is("its own", x.element(d, 0), 0);
        }
        x.keep(3, 1, 5, 9);
        x.keep(4, 0, 0, 0);
        Due.is("shelf 2", x.element(2, 1), 3);
        Due.is("shelf 5", x.element(5, 1), 6);
        Due.is("shelf 3", x.cost(3), 13);
        Due.is("shelf 4", x.cost(4), -11);
    }
}
