/** The edges of promises 20 to 24: eagles, snakes, what is left. */
public final class EaglesEdgesTest {
    private static final String SEVEN = "s00;s00;s00;s00;s00;s00;s00;";

    private EaglesEdgesTest() {
    }

    public static void main(String[] args) {
        liftsRanges();
        liftsFromTheLeastToTheMost();
        liftsSheepJustSoHeavy();
        liftsWaryOrNot();
        manRanges();
        manNoWait();
        manFewestHours();
        manHungerNineAtMost();
        manNotOneTooWary();
        manOfNoEagle();
        safeRanges();
        safeAllOrNone();
        safeWhereverItFlies();
        noonAtEveryHour();
        leftRanges();
        leftNothingAndAll();
        leftOfSeveralTheLeast();
        Due.end();
    }

    /** Promise 20: "-1". */
    private static void liftsRanges() {
        MeatForDiamonds x = new MeatForDiamonds();
        for (int there = 0; there < 4; there++) {
            Due.outside("lifts(e, 0), " + there, e -> x.lifts(e, 0), 0, there - 1, -1);
            Due.is("one more", Due.tell(x, "e0100;"), 1);
            Due.is("lifts(" + there + ", 0)", x.lifts(there, 0), 1);
        }
        String before = Told.all(x);
        Due.range("lifts(e, 0)", e -> x.lifts(e, 0), 0, 3, -1);
        Due.range("lifts(e, 1)", e -> x.lifts(e, 1), 0, 3, -1);
        Due.range("lifts(3, what)", what -> x.lifts(3, what), 0, 1, -1);
        Due.is("neither", x.lifts(4, 2), -1);
        Due.unchanged(x, before);
    }

    /** "the greatest WEIGHT an EAGLE can lift now": STRENGTH and HUNGER together. */
    private static void liftsFromTheLeastToTheMost() {
        MeatForDiamonds x = Due.valley("e0100;e3090;e0190;e3000;");
        Due.is("1 and 0", x.lifts(0, 0), 1);
        Due.is("30 and 9", x.lifts(1, 0), 39);
        Due.is("1 and 9", x.lifts(2, 0), 10);
        Due.is("30 and 0", x.lifts(3, 0), 30);
        for (int e = 0; e < 4; e++) {
            Due.is("of no SHEEP", x.lifts(e, 1), 0);
        }
        x.waits(4);
        Due.is("now", x.lifts(0, 0), 2);
        Due.is("9 at most", x.lifts(1, 0), 39);
    }

    /** "how many of the SHEEP". */
    private static void liftsSheepJustSoHeavy() {
        MeatForDiamonds x = Due.valley("e1110;e1120;e1130;e0100;s06;s07;s08;s59;s70;");
        Due.is("12", x.lifts(0, 1), 2);
        Due.is("13", x.lifts(1, 1), 3);
        Due.is("14", x.lifts(2, 1), 4);
        Due.is("1 is less than BONE", x.lifts(3, 1), 0);
        MeatForDiamonds all = Due.valley("e2990;e2890;s59;s59;s59;s59;s59;s59;s59;");
        Due.is("all seven", all.lifts(0, 1), 7);
        Due.is("none of them", all.lifts(1, 1), 0);
    }

    /** "(WARY or not)". */
    private static void liftsWaryOrNot() {
        MeatForDiamonds x = Due.valley("e1000;s70;d1;t00;t00;t00;t00;t00;");
        Due.is("WARY", x.eagle(0, 3), 5);
        Due.is("WEIGHT", x.lifts(0, 0), 15);
        Due.is("SHEEP", x.lifts(0, 1), 1);
    }

    /** Promise 21: "WEIGHT w (1 .. 60)"; "-1". */
    private static void manRanges() {
        MeatForDiamonds x = Due.valley("e3090;");
        String before = Told.all(x);
        Due.range("man(w)", x::man, 1, 60, -1);
        Due.unchanged(x, before);
        MeatForDiamonds none = new MeatForDiamonds();
        Due.range("man(w), no EAGLE", none::man, 1, 60, -1);
    }

    private static void manNoWait() {
        MeatForDiamonds x = Due.valley("e0100;");
        Due.is("1", x.man(1), 0);
        Due.is("2", x.man(2), 4);
        MeatForDiamonds most = Due.valley("e3090;");
        Due.is("39", most.man(39), 0);
        Due.is("40", most.man(40), -4);
        Due.is("60", most.man(60), -4);
    }

    /** "the fewest hours (0 .. 60) of a WAIT behind which some EAGLE .. lifts WEIGHT w". */
    private static void manFewestHours() {
        MeatForDiamonds x = Due.valley("e1000;e1420;");
        for (int w = 1; w <= 10; w++) {
            Due.is("man(" + w + ")", x.man(w), 0);
        }
        Due.is("the other's", x.man(16), 0);
        for (int w = 17; w <= 23; w++) {
            Due.is("man(" + w + ")", x.man(w), 4 * (w - 16));
        }
        Due.is("none", x.man(24), -4);
    }

    private static void manHungerNineAtMost() {
        MeatForDiamonds x = Due.valley("e1000;");
        Due.is("HUNGER 8", x.man(18), 32);
        Due.is("HUNGER 9", x.man(19), 36);
        Due.is("no HUNGER 10", x.man(20), -4);
        MeatForDiamonds most = Due.valley("e3000;");
        Due.is("39", most.man(39), 36);
        Due.is("40", most.man(40), -4);
    }

    /** "(not one WARY 5 or more)". */
    private static void manNotOneTooWary() {
        MeatForDiamonds x = Due.valley("e2000;s70;d1;t00;t00;t00;t00;");
        Due.is("WARY 4", x.man(24), 0);
        Due.is("WARY 4", x.man(25), 4);
        x.throwsOne(0, 0);
        Due.is("WARY 5", x.man(1), -4);
        Due.is("WARY 5", x.man(25), -4);
        Due.tell(x, "e1000;");
        Due.is("another", x.man(10), 0);
        Due.is("another, later", x.man(11), 4);
        Due.is("another, never", x.man(25), -4);
    }

    private static void manOfNoEagle() {
        MeatForDiamonds x = new MeatForDiamonds();
        Due.is("1", x.man(1), -4);
        Due.is("60", x.man(60), -4);
        Due.is("0", x.man(0), -1);
    }

    /** Promise 22: "-1". */
    private static void safeRanges() {
        MeatForDiamonds x = Due.valley("c0009;c7009;s06;s70;");
        String before = Told.all(x);
        Due.range("safe(s)", x::safe, 0, 1, -1);
        Due.unchanged(x, before);
        Due.is("no sheep", new MeatForDiamonds().safe(0), -1);
        MeatForDiamonds all = Due.valley(SEVEN);
        Due.range("safe(s)", all::safe, 0, 6, -1);
    }

    /** "CELLS (bits) in which a SHEEP is not EATEN now". */
    private static void safeAllOrNone() {
        MeatForDiamonds x = Due.valley("s06;s08;s70;");
        Due.is("no SNAKES", x.safe(0), 255);
        for (int c = 0; c < 8; c++) {
            x.lays(c, 0, 0, 7);
            Due.is("SNAKES in the CELLS to " + c, x.safe(0), 255 - (2 << c) + 1);
        }
        Due.is("none", x.safe(0), 0);
        Due.is("7 SNAKES are not more than 14 by 2", x.safe(1), 255);
        Due.is("none for BONE", x.safe(2), 0);
        x.lays(3, 0, 0, 6);
        Due.is("6 are not more than 12 by 2", x.safe(0), 8);
        x.set(1, 11);
        Due.is("asleep at 11", x.safe(0), 255);
        x.set(1, 13);
        Due.is("asleep at 13", x.safe(0), 255);
        x.set(1, 14);
        Due.is("awake at 14", x.safe(0), 8);
        x.set(1, 10);
        Due.is("awake at 10", x.safe(0), 8);
    }

    private static void safeWhereverItFlies() {
        MeatForDiamonds x = Due.valley("c3009;c7009;s59;s55;");
        Due.is("DOUBLE, 38 by 2", x.safe(0), 255);
        x.lays(7, 0, 0, 0);
        Due.is("cells farther than it FLIES, too", x.safe(1), 255);
        MeatForDiamonds y = Due.valley("c7009;s00;");
        Due.is("EATEN farther than it FLIES", y.safe(0), 127);
    }

    /** Promise 23: "hours till SNAKES sleep (0 they do)". */
    private static void noonAtEveryHour() {
        MeatForDiamonds x = new MeatForDiamonds();
        Due.is("at first", x.noon(), 5);
        for (int hour = 0; hour < 24; hour++) {
            x.set(1, hour);
            Due.is("at " + hour, x.noon(), hour < 11 ? 11 - hour : hour < 14 ? 0 : 35 - hour);
            Due.is("HOUR stays", x.count(2), hour);
        }
    }

    /** Promise 24: "-1". */
    private static void leftRanges() {
        MeatForDiamonds x = Due.valley("c0120;");
        String before = Told.all(x);
        Due.range("left(what)", x::left, 0, 1, -1);
        Due.unchanged(x, before);
    }

    private static void leftNothingAndAll() {
        MeatForDiamonds x = new MeatForDiamonds();
        Due.is("nothing", x.left(0), 0);
        Due.is("the least", x.left(1), 0);
        for (int c = 0; c < 8; c++) {
            x.lays(c, 9, 9, 9);
        }
        Due.is("all there can be", x.left(0), 8 * 54);
        Due.is("the least", x.left(1), 0);
        x.lays(7, 0, 0, 9);
        Due.is("all but one", x.left(0), 7 * 54);
    }

    /** "the CELL with the most, of several the least". */
    private static void leftOfSeveralTheLeast() {
        MeatForDiamonds x = Due.valley("c0040;c3100;c5050;c7100;");
        Due.is("5 each in 3, 5 and 7", x.left(1), 3);
        x.lays(7, 1, 1, 0);
        Due.is("one SMALL one more", x.left(1), 7);
        x.lays(3, 1, 1, 0);
        Due.is("as much", x.left(1), 3);
        x.lays(0, 0, 6, 0);
        Due.is("as much", x.left(1), 0);
        Due.is("WORTH", x.left(0), 6 + 6 + 5 + 6);
    }
}
