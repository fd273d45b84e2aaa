/** The edges of promises 1 and 3 to 11: the valley as told. */
public final class ValleyEdgesTest {
    private static final int MIN = Integer.MIN_VALUE;
    private static final int MAX = Integer.MAX_VALUE;

    private ValleyEdgesTest() {
    }

    public static void main(String[] args) {
        nothingInANewObject();
        firstValuesOfANewObject();
        objectsApart();
        cellRanges();
        eagleRanges();
        sheepRanges();
        nestRanges();
        buysRanges();
        buysOfWhatIsNoSheep();
        buysTillThereIsNoRoom();
        buysAndTheShelfApart();
        laysRanges();
        laysEachNumber();
        laysAnswersBig();
        setRanges();
        setAnswersWhatItWas();
        throwsRanges();
        throwsTooFar();
        throwsNoSuchOneAheadOfTooFar();
        throwsOfNoSheep();
        waitsRanges();
        fiveHundredTwelveCalls();
        Due.end();
    }

    /** Promise 1: "An empty valley, no EAGLES, no SHEEP." */
    private static void nothingInANewObject() {
        MeatForDiamonds x = new MeatForDiamonds();
        Due.is("EAGLES", x.count(0), 0);
        Due.is("SHEEP", x.count(1), 0);
        for (int c = 0; c < 8; c++) {
            for (int what = 0; what < 3; what++) {
                Due.is("cellOf(" + c + ", " + what + ")", x.cellOf(c, what), 0);
            }
        }
        for (int what = 0; what < 6; what++) {
            Due.is("eagle(0, " + what + ")", x.eagle(0, what), -1);
            Due.is("sheep(0, " + what + ")", x.sheep(0, what), -1);
        }
    }

    /** WORTH 0, HOUR 6, DRUMS 0 at first; SHELVES hold nothing; there is no IMAGE. */
    private static void firstValuesOfANewObject() {
        MeatForDiamonds x = new MeatForDiamonds();
        Due.is("HOUR", x.count(2), 6);
        Due.is("DRUMS", x.count(3), 0);
        for (int n = 0; n < 4; n++) {
            Due.is("nest(" + n + ")", x.nest(n), 0);
        }
        for (int d = 0; d < 8; d++) {
            Due.is("cost(" + d + ")", x.cost(d), -11);
            Due.is("put(" + d + ", 0, 0)", x.put(d, 0, 0), -11);
        }
        Due.is("no IMAGE", x.restore(), -3);
        Due.is("what HOUR was", x.set(1, 7), 6);
        Due.is("what DRUMS were", x.set(0, 1), 0);
        Due.is("the first sheep", Due.tell(x, "s00;"), 1);
        Due.is("has number 0", x.sheep(0, 0), 0);
    }

    private static void objectsApart() {
        MeatForDiamonds x = Due.valley("c0999;e3090;s06;d1;t00;");
        MeatForDiamonds y = new MeatForDiamonds();
        x.keep(0, 1, 0, 0);
        x.image();
        Due.is("an empty valley", y.count(0) + y.count(1) + y.count(3) + y.count(4) + y.count(6), 0);
        Due.is("its own HOUR", y.count(2), 6);
        Due.is("its own SHELVES", y.cost(0), -11);
        Due.is("its own IMAGE", y.restore(), -3);
    }

    /** Promise 3. */
    private static void cellRanges() {
        MeatForDiamonds x = Due.valley("c0123;c7987;");
        String before = Told.all(x);
        for (int what = 0; what < 3; what++) {
            int w = what;
            Due.range("cellOf(c, " + w + ")", c -> x.cellOf(c, w), 0, 7, -1);
            Due.is("cellOf(0, " + w + ")", x.cellOf(0, w), w + 1);
            Due.is("cellOf(7, " + w + ")", x.cellOf(7, w), 9 - w);
        }
        Due.range("cellOf(0, what)", what -> x.cellOf(0, what), 0, 2, -1);
        Due.range("cellOf(7, what)", what -> x.cellOf(7, what), 0, 2, -1);
        Due.is("neither", x.cellOf(8, 3), -1);
        Due.unchanged(x, before);
    }

    /** Promise 4: "EAGLES 0 .. 3 as they come". */
    private static void eagleRanges() {
        MeatForDiamonds x = new MeatForDiamonds();
        for (int there = 0; there < 4; there++) {
            for (int what = 0; what < 4; what++) {
                int w = what;
                Due.outside("eagle(e, " + w + ")", e -> x.eagle(e, w), 0, there - 1, -1);
            }
            Due.is("one more", Due.tell(x, "e1" + there + "5" + there + ";"), 1);
            Due.range("eagle(" + there + ", what)", what -> x.eagle(x.count(0) - 1, what), 0, 3, -1);
            Due.is("STRENGTH", x.eagle(there, 0), 10 + there);
            Due.is("HUNGER", x.eagle(there, 1), 5);
            Due.is("NEST", x.eagle(there, 2), there);
            Due.is("WARY", x.eagle(there, 3), 0);
        }
        Due.range("eagle(e, 0)", e -> x.eagle(e, 0), 0, 3, -1);
    }

    /** Promise 5: "SHEEP 0 .. 6 as they come". */
    private static void sheepRanges() {
        MeatForDiamonds x = new MeatForDiamonds();
        for (int there = 0; there < 7; there++) {
            for (int what = 0; what < 6; what++) {
                int w = what;
                Due.outside("sheep(s, " + w + ")", s -> x.sheep(s, w), 0, there - 1, -1);
            }
            Due.is("one more", Due.tell(x, "s" + (7 - there) + there + ";"), 1);
            Due.range("sheep(" + there + ", what)", what -> x.sheep(x.count(1) - 1, what), 0, 5, -1);
        }
        for (int s = 0; s < 7; s++) {
            Due.is("KIND", x.sheep(s, 0), 7 - s);
            Due.is("FIGURE", x.sheep(s, 1), s);
        }
        Due.range("sheep(s, 0)", s -> x.sheep(s, 0), 0, 6, -1);
    }

    /** Promise 6. */
    private static void nestRanges() {
        MeatForDiamonds x = Due.valley("c0120;c1030;e3090;e3093;s09;t00;t01;");
        Due.range("nest(n)", x::nest, 0, 3, -1);
        Due.is("NEST 0", x.nest(0), 7);
        Due.is("NEST 1", x.nest(1), 0);
        Due.is("NEST 2", x.nest(2), 0);
        Due.is("NEST 3", x.nest(3), 3);
    }

    /** Promise 7: "-1, -11, -12 (a ROW), -2". */
    private static void buysRanges() {
        MeatForDiamonds x = new MeatForDiamonds();
        for (int d = 0; d < 8; d++) {
            Due.is("nothing", x.buys(d), -11);
        }
        Due.outside("buys(d)", x::buys, 0, 7, -1);
        x.keep(0, 1, 7, 0);
        x.keep(7, 1, 0, 9);
        Due.is("the first shelf", x.buys(0), 0);
        Due.is("the last shelf", x.buys(7), 1);
        Due.outside("buys(d)", x::buys, 0, 7, -1);
        Due.is("KIND", x.sheep(0, 0), 7);
        Due.is("FIGURE", x.sheep(1, 1), 9);
        Due.is("two", x.count(1), 2);
    }

    private static void buysOfWhatIsNoSheep() {
        MeatForDiamonds x = new MeatForDiamonds();
        for (int sort = 0; sort < 3; sort++) {
            x.row(sort, sort, sort * 50);
        }
        x.keep(4, 1, 0, 0);
        x.keep(4, 0, 0, 0);
        String before = Told.all(x);
        Due.is("no bytes", x.buys(0), -12);
        Due.is("shorts", x.buys(1), -12);
        Due.is("ints", x.buys(2), -12);
        Due.is("nothing at first", x.buys(3), -11);
        Due.is("nothing any more", x.buys(4), -11);
        Due.unchanged(x, before);
    }

    /** "7 at most"; "-2 there is no room", told last. */
    private static void buysTillThereIsNoRoom() {
        MeatForDiamonds x = new MeatForDiamonds();
        x.keep(3, 1, 2, 5);
        x.row(4, 0, 1);
        for (int s = 0; s < 7; s++) {
            Due.is("its number", x.buys(3), s);
        }
        String before = Told.all(x);
        Due.is("no room", x.buys(3), -2);
        Due.is("a row ahead of no room", x.buys(4), -12);
        Due.is("nothing ahead of no room", x.buys(5), -11);
        Due.is("no such shelf ahead of no room", x.buys(8), -1);
        Due.is("no such shelf ahead of no room", x.buys(-1), -1);
        Due.unchanged(x, before);
    }

    /** "what is taken from a SHELF, stay[s] there". */
    private static void buysAndTheShelfApart() {
        MeatForDiamonds x = new MeatForDiamonds();
        x.keep(3, 1, 3, 4);
        x.buys(3);
        Due.is("it stays", x.cost(3), 14);
        x.keep(3, 1, 0, 0);
        Due.is("the bought one is as it was", x.sheep(0, 0), 3);
        Due.is("the bought one is as it was", x.sheep(0, 1), 4);
        x.buys(3);
        Due.is("the other KIND", x.sheep(1, 0), 0);
    }

    /** Promise 8. */
    private static void laysRanges() {
        MeatForDiamonds x = Due.valley("c0345;c7678;c3222;");
        String before = Told.all(x);
        Due.outside("lays(c, ..)", c -> x.lays(c, 1, 1, 1), 0, 7, -1);
        Due.outside("lays(.., big, ..)", big -> x.lays(3, big, 1, 1), 0, 9, -1);
        Due.outside("lays(.., small, ..)", small -> x.lays(3, 1, small, 1), 0, 9, -1);
        Due.outside("lays(.., snakes)", snakes -> x.lays(3, 1, 1, snakes), 0, 9, -1);
        Due.is("all wrong", x.lays(8, 10, -1, MAX), -1);
        Due.unchanged(x, before);
        Due.range("lays(c, ..)", c -> x.lays(c, 1, 1, 1), 0, 7, -1);
        Due.range("lays(.., big, ..)", big -> x.lays(3, big, 1, 1), 0, 9, -1);
        Due.range("lays(.., small, ..)", small -> x.lays(3, 1, small, 1), 0, 9, -1);
        Due.range("lays(.., snakes)", snakes -> x.lays(3, 1, 1, snakes), 0, 9, -1);
    }

    private static void laysEachNumber() {
        MeatForDiamonds x = new MeatForDiamonds();
        for (int c = 0; c < 8; c += 7) {
            x.lays(c, 9, 0, 0);
            Due.is("BIG", x.cellOf(c, 0) * 100 + x.cellOf(c, 1) * 10 + x.cellOf(c, 2), 900);
            x.lays(c, 0, 9, 0);
            Due.is("SMALL", x.cellOf(c, 0) * 100 + x.cellOf(c, 1) * 10 + x.cellOf(c, 2), 90);
            x.lays(c, 0, 0, 9);
            Due.is("SNAKES", x.cellOf(c, 0) * 100 + x.cellOf(c, 1) * 10 + x.cellOf(c, 2), 9);
        }
        Due.is("no other cell", x.count(4) + x.count(5), 0);
    }

    /** "BIG it had". */
    private static void laysAnswersBig() {
        MeatForDiamonds x = new MeatForDiamonds();
        Due.is("0 at first", x.lays(7, 9, 8, 7), 0);
        Due.is("9", x.lays(7, 0, 8, 7), 9);
        Due.is("0", x.lays(7, 1, 0, 0), 0);
        Due.is("another cell", x.lays(6, 5, 0, 0), 0);
        Due.is("1", x.lays(7, 1, 0, 0), 1);
    }

    /** Promise 9. */
    private static void setRanges() {
        MeatForDiamonds x = Due.valley("d1;h03;");
        String before = Told.all(x);
        Due.outside("set(0, v)", v -> x.set(0, v), 0, 1, -1);
        Due.outside("set(1, v)", v -> x.set(1, v), 0, 23, -1);
        Due.outside("set(what, 0)", what -> x.set(what, 0), 0, 1, -1);
        Due.outside("set(what, 1)", what -> x.set(what, 1), 0, 1, -1);
        Due.is("no DRUMS of 2, though an HOUR", x.set(0, 2), -1);
        Due.unchanged(x, before);
        Due.range("set(0, v)", v -> x.set(0, v), 0, 1, -1);
        Due.range("set(1, v)", v -> x.set(1, v), 0, 23, -1);
        Due.range("set(what, 1)", what -> x.set(what, 1), 0, 1, -1);
    }

    private static void setAnswersWhatItWas() {
        MeatForDiamonds x = new MeatForDiamonds();
        Due.is("DRUMS were 0", x.set(0, 1), 0);
        Due.is("DRUMS were 1", x.set(0, 1), 1);
        Due.is("DRUMS were 1", x.set(0, 0), 1);
        Due.is("DRUMS are 0", x.count(3), 0);
        Due.is("HOUR was 6", x.set(1, 0), 6);
        Due.is("HOUR was 0", x.set(1, 23), 0);
        Due.is("HOUR was 23", x.set(1, 23), 23);
        Due.is("HOUR is 23", x.count(2), 23);
        Due.tell(x, "e1000;");
        x.set(1, 11);
        Due.is("no WAIT: HUNGER stays", x.eagle(0, 1), 0);
    }

    /** Promise 10: "-1, -3". */
    private static void throwsRanges() {
        MeatForDiamonds x = Due.valley("c0999;e3090;s06;s69;");
        String before = Told.all(x);
        Due.outside("throwsOne(s, 0)", s -> x.throwsOne(s, 0), 0, 1, -1);
        Due.outside("throwsOne(0, c)", c -> x.throwsOne(0, c), 0, 7, -1);
        Due.outside("throwsOne(1, c)", c -> x.throwsOne(1, c), 0, 7, -1);
        Due.unchanged(x, before);
        Due.range("throwsOne(s, 0)", s -> x.throwsOne(s, 0), 0, 1, -1);
        Due.range("throwsOne(1, c)", c -> x.throwsOne(1, c), 0, 7, -1);
        Due.is("four more throws", x.count(2), 10);
    }

    /** "(no number above FLIES)": each KIND to the last CELL it FLIES to, and one CELL farther. */
    private static void throwsTooFar() {
        int[] flies = {4, 6, 3, 3, 6, 2, 7, 7};
        for (int kind = 0; kind < 8; kind++) {
            MeatForDiamonds x = Due.valley("e3090;s" + kind + "9;");
            Due.isTrue("throwsOne(0, " + flies[kind] + ")", x.throwsOne(0, flies[kind]) >= 0);
            String before = Told.all(x);
            for (int c = flies[kind] + 1; c < 8; c++) {
                Due.is("throwsOne(0, " + c + ")", x.throwsOne(0, c), -3);
            }
            Due.unchanged(x, before);
        }
    }

    private static void throwsNoSuchOneAheadOfTooFar() {
        MeatForDiamonds x = Due.valley("s59;");
        Due.is("the last cell, too far", x.throwsOne(0, 7), -3);
        Due.is("no such cell", x.throwsOne(0, 8), -1);
        Due.is("no such sheep", x.throwsOne(1, 7), -1);
        Due.is("no such sheep", x.throwsOne(-1, 7), -1);
        Due.is("neither", x.throwsOne(MIN, MAX), -1);
    }

    private static void throwsOfNoSheep() {
        MeatForDiamonds x = Due.valley("c0900;e3090;");
        Due.is("no sheep", x.throwsOne(0, 0), -1);
        Due.is("no throw", x.count(2), 6);
        Due.is("no hunger", x.count(7), 9);
    }

    /** Promise 11: "(1 .. 60)". */
    private static void waitsRanges() {
        MeatForDiamonds x = Due.valley("e1000;");
        String before = Told.all(x);
        Due.outside("waits(hours)", x::waits, 1, 60, -1);
        Due.unchanged(x, before);
        Due.is("one hour", x.waits(1), 7);
        Due.is("sixty", x.waits(60), 19);
        Due.is("to 23", x.waits(4), 23);
        Due.is("behind 23", x.waits(1), 0);
        Due.is("a day", x.waits(24), 0);
        Due.is("two days", x.waits(48), 0);
        Due.is("a day but an hour", x.waits(23), 23);
        Due.is("a day and an hour", x.waits(25), 0);
    }

    /** "An object is used for at most 512 calls": the last of them answers as the first. */
    private static void fiveHundredTwelveCalls() {
        MeatForDiamonds x = new MeatForDiamonds();
        for (int i = 0; i < 255; i++) {
            Due.is("keep", x.keep(0, 1, 3, i % 10), 0);
            Due.is("cost", x.cost(0), 2 * (3 + i % 10));
        }
        Due.is("call 511", x.buys(0), 0);
        Due.is("call 512", x.sheep(0, 1), 4);
    }
}
