/** The edges of promises 25 to 28: what came up. */
public final class CameUpEdgesTest {
    private static final long NO_SUCH_MEAN = 1000000001L;
    /** STICKS 1, 2, 3, 0, 12. */
    private static final String SHEEP = "s00;s03;s06;s70;s59;";

    private CameUpEdgesTest() {
    }

    public static void main(String[] args) {
        stillRanges();
        stillRefusedInOrder();
        stillByNoElement();
        stillNoPair();
        stillOnePair();
        stillTheLeastPair();
        stillWhatIsLeftOfTheLeast();
        stillByEverySort();
        stillByAsManyAsARowHolds();
        stillWhateverThereIs();
        tellsMostRanges();
        tellsMostRefusedInOrder();
        tellsMostNoPair();
        tellsMostOfSeveralTheLeast();
        tellsMostOfOnePair();
        tellsMostOfAll();
        tellsMostTheNextThrow();
        whoseRanges();
        whoseNothing();
        whoseAllOrNone();
        whoseNoFartherThanItFlies();
        meanRanges();
        meanOfNothing();
        meanInLeastTerms();
        meanOfAllItFliesTo();
        rowsStay();
        Due.end();
    }

    /** A valley with shelf 0 nothing, 1 a sheep, 2 bytes, 3 shorts, 4 ints. */
    private static MeatForDiamonds withShelves(String text) {
        MeatForDiamonds x = Due.valley(text);
        x.keep(1, 1, 0, 0);
        Due.row(x, 2, 0, 5, 1);
        Due.row(x, 3, 1, 5, 1);
        Due.row(x, 4, 2, 5, 1);
        return x;
    }

    /** Promise 25: "-1, -11, -12 (no ROW)". */
    private static void stillRanges() {
        MeatForDiamonds x = withShelves(SHEEP);
        x.row(0, 0, 0);
        x.row(7, 2, 0);
        String before = Told.all(x);
        for (int what = 0; what < 3; what++) {
            int w = what;
            Due.range("still(s, 2, " + w + ")", s -> x.still(s, 2, w), 0, 4, -1);
            Due.range("still(0, d, " + w + ")", d -> x.still(0, d, w), 0, 7, -1);
        }
        Due.range("still(0, 2, what)", what -> x.still(0, 2, what), 0, 2, -1);
        Due.unchanged(x, before);
    }

    private static void stillRefusedInOrder() {
        MeatForDiamonds x = withShelves(SHEEP);
        for (int what = 0; what < 3; what++) {
            Due.is("nothing", x.still(0, 0, what), -11);
            Due.is("a sheep", x.still(0, 1, what), -12);
            Due.is("no such sheep ahead of nothing", x.still(5, 0, what), -1);
            Due.is("no such sheep ahead of a sheep", x.still(-1, 1, what), -1);
            Due.is("a row", x.still(0, 4, what) >= 0 ? 1 : 0, 1);
        }
        Due.is("no such what ahead of nothing", x.still(0, 0, 3), -1);
        Due.is("no such what ahead of a sheep", x.still(0, 1, -1), -1);
        Due.is("no sheep at all", withShelves("d0;").still(0, 2, 0), -1);
    }

    private static void stillIs(MeatForDiamonds x, int s, int pairs, int least, int... row) {
        Due.row(x, 5, 2, row);
        Due.is("pairs", x.still(s, 5, 0), pairs);
        Due.is("the least", x.still(s, 5, 1), least);
        Due.is("what is left of it", x.still(s, 5, 2), least == -4 ? -4 : 0);
    }

    /** "BIG, SMALL (0 .. 9 each) that could have been there first". */
    private static void stillByNoElement() {
        MeatForDiamonds x = Due.valley(SHEEP);
        for (int s = 0; s < 5; s++) {
            stillIs(x, s, 100, 0);
        }
    }

    /** "-4 none". */
    private static void stillNoPair() {
        MeatForDiamonds x = Due.valley(SHEEP);
        stillIs(x, 0, 0, -4, 2);
        stillIs(x, 0, 0, -4, 6);
        stillIs(x, 0, 0, -4, -1);
        stillIs(x, 0, 0, -4, Integer.MAX_VALUE);
        stillIs(x, 0, 0, -4, Integer.MIN_VALUE);
        stillIs(x, 0, 0, -4, 0, 1);
        stillIs(x, 0, 0, -4, 5, -4);
        stillIs(x, 2, 0, -4, 7, -4, 0);
        stillIs(x, 0, 0, -4, 1, 5);
        stillIs(x, 0, 0, -4, 5, 5, 5, 5, 5, 5, 5, 5, 5, 5);
        stillIs(x, 0, 0, -4, 1, 1, 1, 1, 1, 1, 1, 1, 1, 1);
        stillIs(x, 3, 0, -4, 1);
        stillIs(x, 3, 0, -4, 5);
        stillIs(x, 4, 0, -4, 55);
        stillIs(x, 2, 0, -4, 16);
    }

    private static void stillOnePair() {
        MeatForDiamonds x = Due.valley(SHEEP);
        stillIs(x, 0, 1, 0, 0);
        stillIs(x, 0, 1, 1, 1, 0);
        stillIs(x, 0, 1, 10, 5, 0);
        stillIs(x, 0, 1, 90, 5, 5, 5, 5, 5, 5, 5, 5, 5, 0);
        stillIs(x, 4, 1, 99, 48, 6);
        stillIs(x, 4, 1, 99, 48, 6, 0, 0);
        stillIs(x, 4, 1, 98, 48, 5);
        // No 9 and more than 9: nothing is left when the tenth is thrown.
        stillIs(x, 0, 1, 9, 1, 1, 1, 1, 1, 1, 1, 1, 1);
    }

    /** "the least (10 BIG and SMALL)". */
    private static void stillTheLeastPair() {
        MeatForDiamonds x = Due.valley(SHEEP);
        stillIs(x, 0, 9, 1, 1);
        stillIs(x, 0, 90, 10, 5);
        stillIs(x, 0, 80, 20, 5, 5);
        stillIs(x, 0, 10, 90, 5, 5, 5, 5, 5, 5, 5, 5, 5);
        stillIs(x, 1, 9, 11, 6);
        stillIs(x, 1, 80, 20, 10);
        stillIs(x, 1, 1, 10, 5);
        stillIs(x, 4, 2, 5, 5);
        stillIs(x, 4, 2, 9, 9);
        stillIs(x, 4, 2, 18, 13);
        stillIs(x, 4, 1, 90, 45);
        stillIs(x, 4, 7, 93, 48);
    }

    /** "what is left of that then": the least pair is but what came up, so nothing is left of it. */
    private static void stillWhatIsLeftOfTheLeast() {
        MeatForDiamonds x = Due.valley(SHEEP);
        int[] sticks = {1, 2, 3, 0, 12};
        for (int s = 0; s < 5; s++) {
            for (int pair = 0; pair < 100; pair += 7) {
                int big = Math.min(pair / 10, sticks[s]);
                int small = Math.min(pair % 10, sticks[s] - big);
                x.row(5, 0, 1);
                x.put(5, 0, 5 * big + small);
                Due.is("left", x.still(s, 5, 2), 0);
            }
        }
    }

    private static void stillByEverySort() {
        MeatForDiamonds x = withShelves(SHEEP);
        for (int d = 2; d < 5; d++) {
            Due.is("pairs", x.still(0, d, 0), 9);
            Due.is("the least", x.still(0, d, 1), 11);
        }
        Due.row(x, 2, 0, 256 + 5);
        Due.row(x, 3, 1, 256 + 5);
        Due.is("a byte keeps its lowest bits", x.still(0, 2, 0), 90);
        Due.is("a short does not lose these", x.still(0, 3, 0), 0);
    }

    private static void stillByAsManyAsARowHolds() {
        MeatForDiamonds x = Due.valley(SHEEP);
        x.row(5, 1, 100);
        Due.is("nothing there", x.still(0, 5, 0), 1);
        Due.is("BONE", x.still(3, 5, 0), 100);
        x.put(5, 99, 1);
        Due.is("nothing, then a stone", x.still(0, 5, 0), 0);
        Due.is("BONE brings none", x.still(3, 5, 0), 0);
    }

    /** "(each carried by some EAGLE, never EATEN)": no matter what is in the valley now. */
    private static void stillWhateverThereIs() {
        MeatForDiamonds x = Due.valley("c0009;c1009;c2009;c3009;c4009;s06;");
        stillIs(x, 0, 70, 30, 15);
        Due.tell(x, "e3090;");
        x.set(1, 12);
        stillIs(x, 0, 70, 30, 15);
    }

    /** Promise 26: "-1, -11, -12". */
    private static void tellsMostRanges() {
        MeatForDiamonds x = withShelves(SHEEP);
        x.row(0, 0, 0);
        x.row(7, 2, 0);
        String before = Told.all(x);
        for (int what = 0; what < 2; what++) {
            int w = what;
            Due.range("tellsMost(s, 7, " + w + ")", s -> x.tellsMost(s, 7, w), 0, 4, -1);
            Due.range("tellsMost(0, d, " + w + ")", d -> Math.min(0, x.tellsMost(0, d == 1 ? 8 : d, w)), 0, 7, -1);
        }
        Due.range("tellsMost(0, 2, what)", what -> x.tellsMost(0, 2, what), 0, 1, -1);
        Due.unchanged(x, before);
    }

    private static void tellsMostRefusedInOrder() {
        MeatForDiamonds x = withShelves(SHEEP);
        for (int what = 0; what < 2; what++) {
            Due.is("nothing", x.tellsMost(0, 0, what), -11);
            Due.is("a sheep", x.tellsMost(0, 1, what), -12);
            Due.is("no such sheep ahead of nothing", x.tellsMost(5, 0, what), -1);
            Due.is("no such sheep ahead of a sheep", x.tellsMost(-1, 1, what), -1);
        }
        Due.is("no such what ahead of nothing", x.tellsMost(0, 0, 2), -1);
        Due.is("no such what ahead of a sheep", x.tellsMost(0, 1, -1), -1);
        Due.is("no SHEEP: no such one", withShelves("d0;").tellsMost(0, 2, 0), -1);
    }

    private static void mostIs(MeatForDiamonds x, int s, int best, int parts, int... row) {
        Due.row(x, 5, 1, row);
        Due.is("the SHEEP", x.tellsMost(s, 5, 0), best);
        Due.is("how many", x.tellsMost(s, 5, 1), parts);
    }

    /** "-4 no pair, no SHEEP". */
    private static void tellsMostNoPair() {
        MeatForDiamonds x = Due.valley(SHEEP);
        mostIs(x, 0, -4, -4, 2);
        mostIs(x, 0, -4, -4, 5, -4);
        mostIs(x, 3, -4, -4, 0, 1);
        mostIs(x, 4, -4, -4, -1);
    }

    /** "the SHEEP whose next THROW there parts these pairs into most unlike numbers, of several the least". */
    private static void tellsMostOfSeveralTheLeast() {
        mostIs(Due.valley("s00;s06;s06;"), 0, 1, 10);
        mostIs(Due.valley("s70;s79;"), 0, 0, 1);
        mostIs(Due.valley("s70;s02;s02;"), 1, 1, 3);
        mostIs(Due.valley("s59;s55;"), 0, 0, 49);
        mostIs(Due.valley("s55;s59;"), 0, 1, 49);
    }

    private static void tellsMostOfOnePair() {
        MeatForDiamonds x = Due.valley(SHEEP);
        mostIs(x, 0, 0, 1, 0);
        mostIs(x, 4, 0, 1, 48, 6);
        mostIs(x, 2, 0, 1, 15, 15, 15, 3, 1);
    }

    private static void tellsMostOfAll() {
        // Twelve stones at most are worth 0 to 48.
        mostIs(Due.valley(SHEEP), 0, 4, 49);
        mostIs(Due.valley("s00;"), 0, 0, 3);
        mostIs(Due.valley("s70;"), 0, 0, 1);
    }

    /** The next THROW is onto what is left, not onto what was there first. */
    private static void tellsMostTheNextThrow() {
        MeatForDiamonds x = Due.valley("s00;s06;");
        mostIs(x, 1, 1, 4, 15, 7);
        mostIs(x, 1, 1, 10, 15);
        mostIs(x, 1, 0, 1, 15, 2);
        mostIs(x, 0, 1, 4, 1);
    }

    /** Promise 27: "-1 (v below 0, too)". */
    private static void whoseRanges() {
        MeatForDiamonds x = Due.valley("c0123;e3090;" + SHEEP);
        String before = Told.all(x);
        Due.range("whose(c, 0)", c -> x.whose(c, 0), 0, 7, -1);
        Due.is("v below 0", x.whose(0, -1), -1);
        Due.is("v far below 0", x.whose(0, Integer.MIN_VALUE), -1);
        Due.is("v 0", x.whose(0, 0), 8);
        Due.is("v far above", x.whose(0, Integer.MAX_VALUE), 0);
        Due.is("neither", x.whose(8, -1), -1);
        Due.unchanged(x, before);
    }

    private static void whoseNothing() {
        MeatForDiamonds x = Due.valley("c0900;e3090;");
        Due.is("no SHEEP", x.whose(0, 0), 0);
        Due.is("no SHEEP", x.whose(0, 5), 0);
    }

    /** "SHEEP (bits) that, thrown onto a CELL now, would bring just v". */
    private static void whoseAllOrNone() {
        MeatForDiamonds x = Due.valley("c0900;e3090;s00;s01;s02;s10;s11;s12;s70;");
        Due.is("5", x.whose(0, 5), 7);
        Due.is("0", x.whose(0, 0), 8 + 16 + 32 + 64);
        Due.is("4", x.whose(0, 4), 0);
        Due.is("6", x.whose(0, 6), 0);
        x.lays(0, 9, 0, 9);
        Due.is("all EATEN", x.whose(0, 0), 127);
        Due.is("none brings", x.whose(0, 5), 0);
        MeatForDiamonds none = Due.valley("c0900;s00;s00;s00;s00;s00;s00;s00;");
        Due.is("no EAGLE", none.whose(0, 0), 127);
        Due.is("no EAGLE", none.whose(0, 5), 0);
    }

    /** A SHEEP that does not fly there cannot be thrown there. */
    private static void whoseNoFartherThanItFlies() {
        int[] due = {127, 127, 127, 95, 75, 74, 74, 64};
        MeatForDiamonds x = Due.valley("s00;s10;s20;s40;s30;s50;s60;");
        for (int c = 0; c < 8; c++) {
            Due.is("0 at " + c, x.whose(c, 0), due[c]);
        }
    }

    /** Promise 28: "Refused as told: -1". */
    private static void meanRanges() {
        MeatForDiamonds x = Due.valley("c0123;e3090;" + SHEEP);
        String before = Told.all(x);
        for (int part = 0; part < 2; part++) {
            int p = part;
            Due.range("mean(s, " + p + ")", s -> x.mean(s, p), 0, 4, NO_SUCH_MEAN);
        }
        Due.range("mean(0, part)", part -> x.mean(0, part), 0, 1, NO_SUCH_MEAN);
        Due.is("neither", x.mean(5, 2), NO_SUCH_MEAN);
        Due.unchanged(x, before);
        Due.is("no SHEEP", new MeatForDiamonds().mean(0, 0), NO_SUCH_MEAN);
        Due.is("no SHEEP", new MeatForDiamonds().mean(0, 1), NO_SUCH_MEAN);
    }

    private static void meanIs(MeatForDiamonds x, long above, long below) {
        Due.is("above", x.mean(0, 0), above);
        Due.is("below", x.mean(0, 1), below);
    }

    private static void meanOfNothing() {
        meanIs(Due.valley("e3090;s06;"), 0, 1);
        meanIs(Due.valley("c0900;s06;"), 0, 1);
        meanIs(Due.valley("c0999;e3090;s06;"), 0, 1);
        meanIs(Due.valley("c0900;e3090;s79;"), 0, 1);
        meanIs(Due.valley("c5900;e3090;s06;"), 0, 1);
    }

    /** "a fraction in least terms". */
    private static void meanInLeastTerms() {
        meanIs(Due.valley("c0010;e3090;s66;"), 1, 8);
        meanIs(Due.valley("c0020;e3090;s66;"), 1, 4);
        meanIs(Due.valley("c0020;c1010;e3090;s66;"), 3, 8);
        meanIs(Due.valley("c0020;c1020;e3090;s66;"), 1, 2);
        meanIs(Due.valley("c0100;c7010;e3090;s66;"), 3, 4);
        meanIs(Due.valley("c0110;c7020;e3090;s66;"), 1, 1);
        meanIs(Due.valley("c0900;c1900;c2900;c3900;c4900;c5900;c6900;c7900;e3090;s66;"), 10, 1);
        meanIs(Due.valley("c0900;c1900;c2900;e3090;s59;"), 45, 1);
        meanIs(Due.valley("c0200;e3090;s59;"), 10, 3);
        meanIs(Due.valley("c0100;c1010;e3090;s59;"), 2, 1);
        meanIs(Due.valley("c0100;e3090;s00;"), 1, 1);
        meanIs(Due.valley("c0010;e3090;s10;"), 0, 1);
        meanIs(Due.valley("c0300;e3090;s29;"), 15, 4);
    }

    /** "of all CELLS it FLIES to what it brings in the mean". */
    private static void meanOfAllItFliesTo() {
        int[] flies = {4, 6, 3, 3, 6, 2, 7, 7};
        for (int kind = 0; kind < 7; kind++) {
            MeatForDiamonds x = Due.valley("e3090;s" + kind + "9;");
            x.lays(flies[kind], 0, 1, 0);
            if (flies[kind] < 7) {
                x.lays(flies[kind] + 1, 9, 9, 0);
            }
            meanIs(x, 1, flies[kind] + 1);
        }
    }

    /** "what is taken from a SHELF, stay[s] there". */
    private static void rowsStay() {
        MeatForDiamonds x = withShelves(SHEEP);
        String before = Told.all(x);
        x.still(0, 2, 0);
        x.tellsMost(0, 3, 1);
        x.forged(0, 4);
        x.judge(0, 0, 2);
        Due.unchanged(x, before);
    }
}
