import java.util.function.ToLongFunction;

/** Each promise's REFUSALS: each alone, then those that can meet, where the first one told is due; nothing changes. */
public final class RefusalsTest {
    private static final int MIN = Integer.MIN_VALUE;
    private static final int MAX = Integer.MAX_VALUE;
    private static final int[] NO_SHELF = {-1, 8, MIN, MAX};
    /** What the shelves of each object that is asked hold. */
    private static final int NOTHING = 0;
    private static final int A_SHEEP = 1;
    private static final int BYTES = 2;
    private static final int SHORTS = 3;
    private static final int INTS = 4;
    private static final int BONE = 5;
    private static final int NO_FIGURE = 6;

    private RefusalsTest() {
    }

    public static void main(String[] args) {
        valleyAndBuys();
        toldOfTheValley();
        changesOfTheValley();
        throwsInMind();
        numbersInMind();
        eaglesAndSnakes();
        whatCameUp();
        merchantsAndNests();
        restoreAndCount();
        keepAndRow();
        putAndElement();
        copyTwoShelves();
        costAndToss();
        Due.end();
    }

    /** An eagle, a sheep that FLIES 4, and one of each on the shelves. */
    private static MeatForDiamonds asked(String more) {
        MeatForDiamonds x = Due.valley("c0340;c7120;e2091;s06;" + more);
        x.keep(A_SHEEP, 1, 3, 7);
        Due.row(x, BYTES, 0, 'h', '0', '0', ';');
        Due.row(x, SHORTS, 1, 5, 5);
        Due.row(x, INTS, 2, 5, 5);
        x.keep(BONE, 1, 7, 9);
        x.keep(NO_FIGURE, 1, 2, 0);
        return x;
    }

    private static void refusedBy(MeatForDiamonds x, String call, ToLongFunction<MeatForDiamonds> called, long due) {
        String before = Told.all(x);
        Due.is(call, called.applyAsLong(x), due);
        Due.unchanged(x, before);
    }

    private static void refused(String call, ToLongFunction<MeatForDiamonds> called, long due) {
        refusedBy(asked(""), call, called, due);
    }

    /** Promises 2 and 7. */
    private static void valleyAndBuys() {
        for (int d : NO_SHELF) {
            refused("valley, no such shelf", x -> x.valley(d), -1);
            refused("buys, no such shelf", x -> x.buys(d), -1);
            refusedBy(asked("s00;s00;s00;s00;s00;s00;"), "buys, -1 ahead of -2", x -> x.buys(d), -1);
        }
        refused("valley of nothing", x -> x.valley(NOTHING), -11);
        refused("valley of a sheep", x -> x.valley(A_SHEEP), -12);
        refused("valley of shorts", x -> x.valley(SHORTS), -12);
        refused("valley of ints", x -> x.valley(INTS), -12);
        refused("valley of a FAULT", x -> x.valley(BYTES), -2000);
        refused("buys nothing", x -> x.buys(NOTHING), -11);
        refused("buys a row", x -> x.buys(BYTES), -12);
        String six = "s00;s00;s00;s00;s00;s00;";
        refusedBy(asked(six), "buys, no room", x -> x.buys(A_SHEEP), -2);
        refusedBy(asked(six), "buys, -11 ahead of -2", x -> x.buys(NOTHING), -11);
        refusedBy(asked(six), "buys, -12 ahead of -2", x -> x.buys(INTS), -12);
    }

    /** Promises 3 to 6. */
    private static void toldOfTheValley() {
        for (int v : new int[] {-1, 8, MIN, MAX}) {
            refused("cellOf, no such cell", x -> x.cellOf(v, 0), -1);
            refused("cellOf, no such what", x -> x.cellOf(0, v), -1);
            refused("eagle, no such one", x -> x.eagle(v, 0), -1);
            refused("eagle, no such what", x -> x.eagle(0, v), -1);
            refused("sheep, no such one", x -> x.sheep(v, 0), -1);
            refused("sheep, no such what", x -> x.sheep(0, v), -1);
            refused("nest, no such one", x -> x.nest(v), -1);
        }
        refused("cellOf, what 3", x -> x.cellOf(0, 3), -1);
        refused("eagle 1 of 1", x -> x.eagle(1, 0), -1);
        refused("eagle, what 4", x -> x.eagle(0, 4), -1);
        refused("sheep 1 of 1", x -> x.sheep(1, 0), -1);
        refused("sheep, what 6", x -> x.sheep(0, 6), -1);
        refused("nest 4", x -> x.nest(4), -1);
    }

    /** Promises 8 to 11. */
    private static void changesOfTheValley() {
        for (int v : new int[] {-1, 10, MIN, MAX}) {
            refused("lays, no such cell", x -> x.lays(v, 1, 1, 1), -1);
            refused("lays, BIG", x -> x.lays(0, v, 1, 1), -1);
            refused("lays, SMALL", x -> x.lays(0, 1, v, 1), -1);
            refused("lays, SNAKES", x -> x.lays(0, 1, 1, v), -1);
            refused("set, no such what", x -> x.set(v, 1), -1);
            refused("set, DRUMS", x -> x.set(0, v), -1);
            refused("throwsOne, no such sheep", x -> x.throwsOne(v, 0), -1);
            refused("throwsOne, no such sheep, no such cell", x -> x.throwsOne(v, v), -1);
        }
        refused("lays, cell 8", x -> x.lays(8, 1, 1, 1), -1);
        refused("set, what 2", x -> x.set(2, 0), -1);
        refused("set, DRUMS 2", x -> x.set(0, 2), -1);
        for (int v : new int[] {-1, 24, MIN, MAX}) {
            refused("set, HOUR", x -> x.set(1, v), -1);
        }
        for (int v : new int[] {-1, 0, 61, MIN, MAX}) {
            refused("waits", x -> x.waits(v), -1);
        }
        refused("throwsOne, too far", x -> x.throwsOne(0, 5), -3);
        refused("throwsOne, no such sheep", x -> x.throwsOne(1, 5), -1);
        for (int c : new int[] {-1, 8, MIN, MAX}) {
            refused("throwsOne, -1 ahead of -3", x -> x.throwsOne(0, c), -1);
        }
    }

    /** Promises 12, 16 and 19: "-1, -3". */
    private static void throwsInMind() {
        for (int c = 5; c < 8; c++) {
            int far = c;
            refused("brings, too far", x -> x.brings(0, far, 0), -3);
            refused("bestHour, too far", x -> x.bestHour(0, far, 0), -3);
            refused("drum, too far", x -> x.drum(0, far, 1, 0), -3);
            refused("drum of none, too far", x -> x.drum(0, far, 0, 1), -3);
            refused("brings, -1 ahead of -3", x -> x.brings(0, far, 4), -1);
            refused("bestHour, -1 ahead of -3", x -> x.bestHour(0, far, 2), -1);
            refused("drum, -1 ahead of -3", x -> x.drum(0, far, 1, 2), -1);
            refused("drum, -1 ahead of -3", x -> x.drum(0, far, 9, 0), -1);
            refused("drum, -1 ahead of -3", x -> x.drum(0, far, -1, 0), -1);
        }
        for (int v : new int[] {-1, 9, MIN, MAX}) {
            refused("brings, no such sheep", x -> x.brings(v, 0, 0), -1);
            refused("brings, no such cell", x -> x.brings(0, v, 0), -1);
            refused("brings, no such what", x -> x.brings(0, 0, v), -1);
            refused("bestHour, no such sheep", x -> x.bestHour(v, 0, 0), -1);
            refused("bestHour, no such cell", x -> x.bestHour(0, v, 0), -1);
            refused("bestHour, no such what", x -> x.bestHour(0, 0, v), -1);
            refused("drum, no such sheep", x -> x.drum(v, 0, 1, 0), -1);
            refused("drum, no such cell", x -> x.drum(0, v, 1, 0), -1);
            refused("drum, no such number of throws", x -> x.drum(0, 0, v, 0), -1);
            refused("drum, no such what", x -> x.drum(0, 0, 1, v), -1);
        }
    }

    /** Promises 13 to 15, 17 and 18. */
    private static void numbersInMind() {
        MeatForDiamonds none = Due.valley("c0900;e3090;");
        refusedBy(none, "bestThrow, no SHEEP", MeatForDiamonds::bestThrow, -4);
        refusedBy(Due.valley("e3090;"), "gain, no SHEEP", MeatForDiamonds::gain, 1000000004);
        for (int what = 0; what < 2; what++) {
            int which = what;
            refusedBy(new MeatForDiamonds(), "twoThrows, no SHEEP", x -> x.twoThrows(which), 1000000004);
            refused("greedily, more than 20", x -> x.greedily(21, which), -1);
            refused("greedily, less than 0", x -> x.greedily(-1, which), -1);
        }
        for (int v : new int[] {-1, 2, MIN, MAX}) {
            refused("twoThrows, no such what", x -> x.twoThrows(v), 1000000001);
            refusedBy(new MeatForDiamonds(), "twoThrows, -1 ahead of -4", x -> x.twoThrows(v), 1000000001);
            refused("greedily, no such what", x -> x.greedily(1, v), -1);
            refusedBy(new MeatForDiamonds(), "greedily, no such what", x -> x.greedily(1, v), -1);
            refused("bestCell, no such sheep", x -> x.bestCell(v), -1);
        }
        refused("bestCell 1 of 1", x -> x.bestCell(1), -1);
    }

    /** Promises 20 to 24. */
    private static void eaglesAndSnakes() {
        for (int v : new int[] {-1, 2, MIN, MAX}) {
            refused("lifts, no such eagle", x -> x.lifts(v, 0), -1);
            refused("lifts, no such what", x -> x.lifts(0, v), -1);
            refused("safe, no such sheep", x -> x.safe(v), -1);
            refused("left, no such what", x -> x.left(v), -1);
        }
        refused("lifts, eagle 1 of 1", x -> x.lifts(1, 0), -1);
        refused("safe, sheep 1 of 1", x -> x.safe(1), -1);
        for (int w : new int[] {-1, 0, 61, MIN, MAX}) {
            refused("man, no such WEIGHT", x -> x.man(w), -1);
            refusedBy(new MeatForDiamonds(), "man, -1 ahead of -4", x -> x.man(w), -1);
        }
        refused("man, none", x -> x.man(60), -4);
    }

    /** Promises 25 to 28, and 31, which is told like them. */
    private static void whatCameUp() {
        for (int d : NO_SHELF) {
            refused("still, no such shelf", x -> x.still(0, d, 0), -1);
            refused("tellsMost, no such shelf", x -> x.tellsMost(0, d, 0), -1);
            refused("forged, no such shelf", x -> x.forged(0, d), -1);
        }
        int[] held = {NOTHING, A_SHEEP, BYTES, SHORTS, INTS};
        for (int d : held) {
            for (int v : new int[] {-1, 1, MIN, MAX}) {
                refused("still, no such sheep", x -> x.still(v, d, 0), -1);
                refused("tellsMost, no such sheep", x -> x.tellsMost(v, d, 0), -1);
                refused("forged, no such sheep", x -> x.forged(v, d), -1);
            }
            for (int what : new int[] {-1, 3, MIN, MAX}) {
                refused("still, no such what", x -> x.still(0, d, what), -1);
                refused("tellsMost, no such what", x -> x.tellsMost(0, d, what), -1);
            }
            refused("tellsMost, what 2", x -> x.tellsMost(0, d, 2), -1);
        }
        for (int what = 0; what < 3; what++) {
            int which = what;
            refused("still by nothing", x -> x.still(0, NOTHING, which), -11);
            refused("still by a sheep", x -> x.still(0, A_SHEEP, which), -12);
        }
        for (int what = 0; what < 2; what++) {
            int which = what;
            refused("tellsMost by nothing", x -> x.tellsMost(0, NOTHING, which), -11);
            refused("tellsMost by a sheep", x -> x.tellsMost(0, A_SHEEP, which), -12);
        }
        refused("forged by nothing", x -> x.forged(0, NOTHING), -11);
        refused("forged by a sheep", x -> x.forged(0, A_SHEEP), -12);
        for (int v : new int[] {-1, 8, MIN, MAX}) {
            refused("whose, no such cell", x -> x.whose(v, 0), -1);
            refused("mean, no such sheep", x -> x.mean(v, 0), 1000000001L);
            refused("mean, no such part", x -> x.mean(0, v), 1000000001L);
        }
        refused("whose, below 0", x -> x.whose(0, -1), -1);
        refused("whose, far below 0", x -> x.whose(0, MIN), -1);
        refused("mean, sheep 1 of 1", x -> x.mean(1, 1), 1000000001L);
        refused("mean, part 2", x -> x.mean(0, 2), 1000000001L);
    }

    /** Promises 29, 30, 32 and 33. */
    private static void merchantsAndNests() {
        for (int v : new int[] {-1, 8, MIN, MAX}) {
            refused("merchants, no such cell", x -> x.merchants(v), -1);
            refused("quarrel, no such what", x -> x.quarrel(v), -1);
            refused("seasons, no such what", x -> x.seasons(1, 1, v), -1);
            refusedBy(new MeatForDiamonds(), "seasons, -1 ahead of -3", x -> x.seasons(1, 1, v), -1);
            for (int d : new int[] {NOTHING, A_SHEEP, BYTES, v}) {
                refused("judge, no such sheep", x -> x.judge(v, 0, d), -1);
                refused("judge, no such cell", x -> x.judge(0, v, d), -1);
            }
            refused("judge, no such shelf", x -> x.judge(0, 0, v), -1);
            refused("judge, no such shelf ahead of too far", x -> x.judge(0, 5, v), -1);
        }
        refused("quarrel, what 3", x -> x.quarrel(3), -1);
        for (int d : new int[] {NOTHING, A_SHEEP, BYTES}) {
            refused("judge, too far ahead of what is held", x -> x.judge(0, 7, d), -3);
        }
        refused("judge by nothing", x -> x.judge(0, 4, NOTHING), -11);
        refused("judge by a sheep", x -> x.judge(0, 4, A_SHEEP), -12);
        for (int n : new int[] {-1, 0, 21, MIN, MAX}) {
            refused("seasons, out of range", x -> x.seasons(n, 1, 0), -1);
            refusedBy(new MeatForDiamonds(), "seasons, -1 ahead of -3", x -> x.seasons(n, 1, 0), -1);
        }
        refusedBy(new MeatForDiamonds(), "seasons, no SHEEP", x -> x.seasons(20, 1, 1), -3);
    }

    /** Promises 35 and 36. */
    private static void restoreAndCount() {
        refused("restore, no image", MeatForDiamonds::restore, -3);
        for (int what : new int[] {-1, 8, MIN, MAX}) {
            refused("count", x -> x.count(what), -1);
        }
    }

    /** Promises 37 and 38. */
    private static void keepAndRow() {
        for (int d : NO_SHELF) {
            refused("keep, no such shelf", x -> x.keep(d, 1, 0, 0), -1);
            refused("keep nothing, no such shelf", x -> x.keep(d, 0, 0, 0), -1);
            refused("row, no such shelf", x -> x.row(d, 0, 1), -1);
            refused("row, -1 ahead of -14", x -> x.row(d, 0, -1), -1);
        }
        for (int d = 0; d < 5; d++) {
            int which = d;
            for (int v : new int[] {-1, 10, MIN, MAX}) {
                refused("keep, no such what", x -> x.keep(which, v, 0, 0), -1);
                refused("keep, no such KIND", x -> x.keep(which, 1, v, 0), -1);
                refused("keep, no such FIGURE", x -> x.keep(which, 1, 0, v), -1);
                refused("row, no such SORT", x -> x.row(which, v, 1), -1);
                refused("row, -1 ahead of -14", x -> x.row(which, v, -1), -1);
            }
            refused("keep, what 2", x -> x.keep(which, 2, 0, 0), -1);
            refused("keep, KIND 8", x -> x.keep(which, 1, 8, 0), -1);
            refused("row, SORT 3", x -> x.row(which, 3, 1), -1);
            refused("row of 101", x -> x.row(which, 0, 101), -1);
            refused("row of far too many", x -> x.row(which, 2, MAX), -1);
            refused("row of less than none", x -> x.row(which, 0, -1), -14);
            refused("row of far less than none", x -> x.row(which, 2, MIN), -14);
        }
    }

    private static int thrownBy(MeatForDiamonds x, int d, int i) {
        return Due.thrownBy(x, d, i);
    }

    /** Promises 39 and 40. */
    private static void putAndElement() {
        for (int i : new int[] {-1, 0, 4, MIN, MAX}) {
            for (int d : NO_SHELF) {
                refused("put, -1 ahead of -13", x -> x.put(d, i, 1), -1);
                refused("element, no such shelf ahead of no such place", x -> thrownBy(x, d, i), 1);
            }
            refused("put, -11 ahead of -13", x -> x.put(NOTHING, i, 1), -11);
            refused("put, -12 ahead of -13", x -> x.put(A_SHEEP, i, 1), -12);
            refused("element of nothing", x -> thrownBy(x, NOTHING, i), 2);
            refused("element of a sheep", x -> thrownBy(x, A_SHEEP, i), 2);
        }
        for (int i : new int[] {-1, 4, 100, MIN, MAX}) {
            refused("put, no such place", x -> x.put(BYTES, i, 1), -13);
            refused("element, no such place", x -> thrownBy(x, BYTES, i), 2);
        }
    }

    /** Promise 41: "-1, -11 (either), -12 (no ROWS of one SORT), -13 (n below 0, too)". */
    private static void copyTwoShelves() {
        int[] all = {NOTHING, A_SHEEP, BYTES, SHORTS, INTS};
        for (int n : new int[] {-1, 0, 1, 5, MIN, MAX}) {
            for (int other : all) {
                for (int d : NO_SHELF) {
                    refused("copy from no such shelf", x -> x.copy(d, 0, other, 0, n), -1);
                    refused("copy to no such shelf", x -> x.copy(other, 0, d, 0, n), -1);
                }
                refused("copy, -11 ahead of all behind", x -> x.copy(NOTHING, 0, other, 0, n), -11);
                refused("copy, -11 ahead of all behind", x -> x.copy(other, 0, NOTHING, 0, n), -11);
                if (other != NOTHING) {
                    refused("copy, -12 ahead of -13", x -> x.copy(A_SHEEP, 0, other, 0, n), -12);
                    refused("copy, -12 ahead of -13", x -> x.copy(other, 0, A_SHEEP, 0, n), -12);
                }
            }
            refused("copy, bytes to shorts", x -> x.copy(BYTES, 0, SHORTS, 0, n), -12);
            refused("copy, shorts to ints", x -> x.copy(SHORTS, 0, INTS, 0, n), -12);
            refused("copy, ints to bytes", x -> x.copy(INTS, 0, BYTES, 0, n), -12);
        }
        for (int n : new int[] {-1, 5, MIN, MAX}) {
            refused("copy, no such number", x -> x.copy(BYTES, 0, BYTES, 0, n), -13);
        }
        for (int place : new int[] {-1, 4, MIN, MAX}) {
            refused("copy from no such place", x -> x.copy(BYTES, place, BYTES, 0, 1), -13);
            refused("copy to no such place", x -> x.copy(BYTES, 0, BYTES, place, 1), -13);
        }
    }

    /** Promises 42 and 43. */
    private static void costAndToss() {
        for (int d : NO_SHELF) {
            refused("cost, no such shelf", x -> x.cost(d), -1);
            refused("toss, no such shelf", x -> x.toss(d), -1);
        }
        refused("cost of nothing", x -> x.cost(NOTHING), -11);
        refused("toss of nothing", x -> x.toss(NOTHING), -11);
        for (int d : new int[] {BYTES, SHORTS, INTS}) {
            refused("cost of a row", x -> x.cost(d), -12);
            refused("toss of a row", x -> x.toss(d), -12);
        }
        refused("toss of a bone", x -> x.toss(BONE), -15);
        refused("toss of FIGURE 0", x -> x.toss(NO_FIGURE), -15);
    }
}
