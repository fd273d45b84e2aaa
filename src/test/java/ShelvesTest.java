/** Promises 37 to 43: shelves. */
public final class ShelvesTest {
    private ShelvesTest() {
    }

    public static void main(String[] args) {
        keeping();
        rows();
        putting();
        elements();
        copying();
        copyingRefused();
        costs();
        tosses();
        Due.end();
    }

    private static void keeping() {
        MeatForDiamonds x = new MeatForDiamonds();
        Due.is("a sheep", x.keep(0, 1, 7, 9), 0);
        Due.is("it is there", x.cost(0), 1);
        Due.is("the last shelf", x.keep(7, 1, 0, 0), 0);
        Due.is("it is there", x.cost(7), 3);
        int[][] wrong = {{8, 1, 0, 0}, {-1, 1, 0, 0}, {8, 0, 0, 0}, {0, 2, 0, 0}, {0, -1, 0, 0}, {0, 1, 8, 0}, {0, 1, -1, 0},
            {0, 1, 0, 10}, {0, 1, 0, -1}};
        for (int[] w : wrong) {
            Due.is("keep out of range", x.keep(w[0], w[1], w[2], w[3]), -1);
        }
        Due.is("it is still there", x.cost(0), 1);
        Due.is("nothing, the others do not matter", x.keep(0, 0, -7, 99), 0);
        Due.is("nothing is there", x.cost(0), -11);
        x.row(0, 0, 3);
        Due.is("a sheep in place of a row", x.keep(0, 1, 0, 0), 0);
        Due.is("no row", x.put(0, 0, 0), -12);
        x.row(0, 0, 3);
        Due.is("nothing in place of a row", x.keep(0, 0, 0, 0), 0);
        Due.is("nothing is there", x.put(0, 0, 0), -11);
    }

    private static void rows() {
        MeatForDiamonds x = new MeatForDiamonds();
        Due.is("100 ints", x.row(7, 2, 100), 0);
        Due.is("the last", x.put(7, 99, 5), 0);
        Due.is("none behind it", x.put(7, 100, 5), -13);
        int[][] wrong = {{8, 0, 0}, {-1, 0, 0}, {0, 3, 0}, {0, -1, 0}, {0, 0, 101}, {8, 0, -1}, {0, 3, -1}};
        for (int[] w : wrong) {
            Due.is("row out of range", x.row(w[0], w[1], w[2]), -1);
        }
        Due.is("below 0", x.row(0, 0, -1), -14);
        Due.is("below 0", x.row(7, 0, Integer.MIN_VALUE), -14);
        Due.is("the old row stays", x.element(7, 99), 5);
        Due.is("a new one", x.row(7, 0, 100), 0);
        Due.is("0 at first", x.element(7, 99), 0);
        Due.is("an empty one", x.row(7, 1, 0), 0);
        Due.is("no place in it", x.put(7, 0, 0), -13);
        x.keep(6, 1, 0, 0);
        Due.is("a row in place of a sheep", x.row(6, 0, 1), 0);
        Due.is("no sheep", x.cost(6), -12);
    }

    private static void putting() {
        MeatForDiamonds x = new MeatForDiamonds();
        int[] put = {127, 128, 255, 256, -129, 32767, 32768, 65535, -32769, Integer.MAX_VALUE, Integer.MIN_VALUE, 70000};
        long[][] due = {
            {127, -128, -1, 0, 127, -1, 0, -1, -1, -1, 0, 112},
            {127, 128, 255, 256, -129, 32767, -32768, -1, 32767, -1, 0, 4464},
            {127, 128, 255, 256, -129, 32767, 32768, 65535, -32769, 2147483647, -2147483648, 70000}};
        for (int sort = 0; sort < 3; sort++) {
            Due.row(x, sort, sort, put);
            for (int i = 0; i < put.length; i++) {
                Due.is("sort " + sort + ", " + put[i], x.element(sort, i), due[sort][i]);
            }
        }
        x.keep(3, 1, 0, 0);
        Due.is("no such shelf", x.put(8, 0, 0), -1);
        Due.is("no such shelf", x.put(-1, 99, 0), -1);
        Due.is("nothing held", x.put(4, 0, 0), -11);
        Due.is("a sheep", x.put(3, 0, 0), -12);
        Due.is("no such place", x.put(0, put.length, 0), -13);
        Due.is("no such place", x.put(0, -1, 0), -13);
    }

    private static void elements() {
        MeatForDiamonds x = new MeatForDiamonds();
        Due.row(x, 0, 2, 4, -5);
        x.keep(1, 1, 0, 0);
        Due.is("element(0, 1)", x.element(0, 1), -5);
        Due.is("it is there", Due.thrownBy(x, 0, 0), 0);
        Due.is("no such place", Due.thrownBy(x, 0, 2), 2);
        Due.is("no such place", Due.thrownBy(x, 0, -1), 2);
        Due.is("a sheep", Due.thrownBy(x, 1, 0), 2);
        Due.is("nothing", Due.thrownBy(x, 2, 0), 2);
        Due.is("no such shelf", Due.thrownBy(x, 8, 0), 1);
        Due.is("no such shelf", Due.thrownBy(x, -1, -1), 1);
    }

    private static void rowIs(MeatForDiamonds x, int d, long... due) {
        for (int i = 0; i < due.length; i++) {
            Due.is("element(" + d + ", " + i + ")", x.element(d, i), due[i]);
        }
    }

    private static void copying() {
        MeatForDiamonds x = new MeatForDiamonds();
        Due.row(x, 0, 1, 1, 2, 3, 4, 5);
        Due.row(x, 1, 1, 0, 0, 0);
        Due.is("copy", x.copy(0, 1, 1, 0, 2), 2);
        rowIs(x, 1, 2, 3, 0);
        Due.is("to the end", x.copy(0, 4, 1, 2, 1), 1);
        rowIs(x, 1, 2, 3, 5);
        Due.is("forward in one row", x.copy(0, 0, 0, 1, 4), 4);
        rowIs(x, 0, 1, 1, 2, 3, 4);
        Due.is("back in one row", x.copy(0, 2, 0, 0, 3), 3);
        rowIs(x, 0, 2, 3, 4, 3, 4);
        Due.is("none", x.copy(0, 5, 1, 3, 0), 0);
        rowIs(x, 1, 2, 3, 5);
        Due.row(x, 7, 1, 8, 9);
        Due.is("from the last shelf", x.copy(7, 0, 1, 0, 1), 1);
        Due.is("to the last shelf", x.copy(1, 2, 7, 1, 1), 1);
        rowIs(x, 7, 8, 5);
        x.put(1, 0, 2);
        Due.is("all of a row", x.copy(1, 0, 0, 0, 3), 3);
        rowIs(x, 0, 2, 3, 5, 3, 4);
    }

    private static void copyingRefused() {
        MeatForDiamonds x = new MeatForDiamonds();
        Due.row(x, 0, 1, 1, 2, 3);
        Due.row(x, 1, 1, 1, 2);
        Due.row(x, 2, 0, 1, 2);
        x.keep(3, 1, 0, 0);
        int max = Integer.MAX_VALUE;
        int[][] calls = {
            {8, 0, 0, 0, 1, -1}, {-1, 0, 0, 0, 1, -1}, {0, 0, 8, 0, 1, -1}, {4, 0, -1, 0, 1, -1},
            {4, 0, 0, 0, 1, -11}, {0, 0, 4, 0, 1, -11}, {3, 0, 4, 0, 1, -11}, {4, 0, 3, 0, 1, -11},
            {3, 0, 0, 0, 1, -12}, {0, 0, 3, 0, 1, -12}, {0, 0, 2, 0, 1, -12}, {2, 9, 0, 0, -1, -12}, {3, 0, 3, 0, 1, -12},
            {0, 0, 1, 0, -1, -13}, {0, -1, 1, 0, 1, -13}, {0, 0, 1, -1, 1, -13}, {0, 0, 1, 0, 3, -13}, {1, 0, 0, 0, 3, -13},
            {0, 2, 1, 0, 2, -13}, {0, 0, 1, 1, 2, -13}, {0, 4, 1, 0, 0, -13}, {0, 0, 1, 3, 0, -13},
            {0, max, 1, 0, max, -13}, {0, 1, 1, max, max, -13}, {0, max, 0, max, 2, -13},
            {0, 0, 1, 0, Integer.MIN_VALUE, -13}};
        for (int[] w : calls) {
            Due.is("copy(" + w[0] + ", " + w[1] + ", " + w[2] + ", " + w[3] + ", " + w[4] + ")",
                x.copy(w[0], w[1], w[2], w[3], w[4]), w[5]);
        }
        rowIs(x, 0, 1, 2, 3);
        rowIs(x, 1, 1, 2);
    }

    private static void costs() {
        int[] plain = {3, 2, 3, 6, 6, 4, 1, 1};
        int[] seven = {3, 2, 10, 20, 6, 11, 1, 1};
        MeatForDiamonds x = new MeatForDiamonds();
        for (int kind = 0; kind < 8; kind++) {
            x.keep(5, 1, kind, 0);
            Due.is("cost of " + kind, x.cost(5), plain[kind]);
            x.keep(5, 1, kind, 7);
            Due.is("cost of " + kind, x.cost(5), seven[kind]);
        }
        x.row(4, 2, 2);
        Due.is("a row", x.cost(4), -12);
        Due.is("nothing", x.cost(3), -11);
        Due.is("no such shelf", x.cost(8), -1);
        Due.is("no such shelf", x.cost(-1), -1);
    }

    private static void tosses() {
        int[] seven = {7, 7, 107, 220, 7, 107, 7, -15};
        int[] one = {1, 1, 101, 208, 1, 101, 1, -15};
        MeatForDiamonds x = new MeatForDiamonds();
        for (int kind = 0; kind < 8; kind++) {
            x.keep(5, 1, kind, 7);
            Due.is("toss of " + kind, x.toss(5), seven[kind]);
            Due.is("it stays", x.toss(5), seven[kind]);
            x.keep(5, 1, kind, 1);
            Due.is("toss of " + kind, x.toss(5), one[kind]);
            x.keep(5, 1, kind, 0);
            Due.is("no figure", x.toss(5), -15);
        }
        x.row(4, 2, 2);
        Due.is("a row", x.toss(4), -12);
        Due.is("nothing", x.toss(3), -11);
        Due.is("no such shelf", x.toss(8), -1);
        Due.is("no such shelf", x.toss(-1), -1);
    }
}
