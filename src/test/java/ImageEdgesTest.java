/** The edges of promises 34 to 36: the image, what is told. */
public final class ImageEdgesTest {
    private ImageEdgesTest() {
    }

    public static void main(String[] args) {
        restoreOfNone();
        imageAnswersTheHour();
        restoreAnswersTheHour();
        imageOfAnEmptyValley();
        imageOfAFullValley();
        imageOfEachThing();
        restoredAgainAndAgain();
        theLastImageCounts();
        shelvesStay();
        theValleyGoesOnApart();
        inMindLeavesTheImage();
        countRanges();
        countNothing();
        countAllThereCanBe();
        countOfEach();
        countWhateverTheHour();
        Due.end();
    }

    /** Promise 35: "-3 there is none." */
    private static void restoreOfNone() {
        MeatForDiamonds x = Due.valley("c0345;e3090;s06;d1;t00;");
        x.keep(0, 1, 3, 4);
        String before = Told.all(x);
        Due.is("none", x.restore(), -3);
        Due.unchanged(x, before);
        x.image();
        Due.is("one", x.restore(), 7);
    }

    /** Promise 34: "HOUR". */
    private static void imageAnswersTheHour() {
        MeatForDiamonds x = new MeatForDiamonds();
        Due.is("at first", x.image(), 6);
        for (int hour = 0; hour < 24; hour++) {
            x.set(1, hour);
            Due.is("image()", x.image(), hour);
            Due.is("HOUR stays", x.count(2), hour);
        }
    }

    private static void restoreAnswersTheHour() {
        for (int hour = 0; hour < 24; hour += 23) {
            MeatForDiamonds x = new MeatForDiamonds();
            x.set(1, hour);
            x.image();
            x.set(1, 12);
            Due.is("restore()", x.restore(), hour);
            Due.is("HOUR", x.count(2), hour);
        }
    }

    private static void imageOfAnEmptyValley() {
        MeatForDiamonds x = new MeatForDiamonds();
        String before = Told.valley(x);
        x.image();
        Due.tell(x, "c0999;c7999;e3090;e3091;e3092;e3093;s06;s17;d1;t00;h60;");
        Due.is("restore()", x.restore(), 6);
        Due.isTrue("empty again", Told.valley(x).equals(before));
        Due.is("no EAGLE", x.eagle(0, 0), -1);
        Due.is("no SHEEP", x.sheep(0, 0), -1);
        Due.is("no SHEEP", x.throwsOne(0, 0), -1);
    }

    private static void imageOfAFullValley() {
        MeatForDiamonds x = Due.valley("e3090;e3091;e3092;e3093;s00;s11;s22;s33;s44;s55;s66;c0999;c7999;t60;d1;");
        String before = Told.valley(x);
        Due.is("image()", x.image(), 7);
        Due.tell(x, "t67;t20;h07;d0;c3111;");
        Due.is("restore()", x.restore(), 7);
        Due.isTrue("full again", Told.valley(x).equals(before));
        Due.is("no EAGLE more", Due.tell(x, "e3090;"), -2000);
        Due.is("no SHEEP more", Due.tell(x, "s00;"), -2000);
    }

    /** "all that there is", each thing changed alone. */
    private static void imageOfEachThing() {
        MeatForDiamonds x = Due.valley("c0111;e1000;s60;");
        String before = Told.valley(x);
        x.image();
        x.lays(0, 2, 1, 1);
        restored(x, before);
        x.lays(7, 0, 1, 0);
        restored(x, before);
        x.lays(0, 1, 1, 0);
        restored(x, before);
        x.set(0, 1);
        restored(x, before);
        x.waits(24);
        restored(x, before);
    }

    private static void restored(MeatForDiamonds x, String before) {
        Due.isTrue("changed", !Told.valley(x).equals(before));
        Due.is("restore()", x.restore(), 6);
        Due.isTrue("restored", Told.valley(x).equals(before));
    }

    private static void restoredAgainAndAgain() {
        MeatForDiamonds x = Due.valley("c0900;e3000;s06;d1;");
        x.image();
        for (int i = 0; i < 3; i++) {
            for (int t = 1; t <= 3; t++) {
                Due.is("a throw", x.throwsOne(0, 0), 15);
                Due.is("WARY", x.eagle(0, 3), t);
                Due.is("NEST", x.nest(0), 15 * t);
            }
            Due.is("restore()", x.restore(), 6);
            Due.is("BIG", x.cellOf(0, 0), 9);
            Due.is("WARY", x.eagle(0, 3), 0);
            Due.is("HUNGER", x.eagle(0, 1), 0);
            Due.is("NEST", x.nest(0), 0);
        }
    }

    private static void theLastImageCounts() {
        MeatForDiamonds x = new MeatForDiamonds();
        x.image();
        Due.tell(x, "s00;e1000;h01;");
        Due.is("a second", x.image(), 7);
        Due.tell(x, "s00;e1000;h01;");
        Due.is("the second is restored", x.restore(), 7);
        Due.is("one SHEEP", x.count(1), 1);
        Due.is("one EAGLE", x.count(0), 1);
        Due.is("and stays the image", x.restore(), 7);
    }

    /** "but SHELVES (and THE IMAGE)"; "when THE IMAGE is RESTORED, SHELVES stay as they are". */
    private static void shelvesStay() {
        MeatForDiamonds x = new MeatForDiamonds();
        x.keep(0, 1, 3, 4);
        Due.row(x, 1, 1, 1, 2);
        x.image();
        x.keep(0, 0, 0, 0);
        x.put(1, 0, 7);
        x.keep(2, 1, 2, 9);
        x.row(7, 2, 3);
        String before = Told.shelves(x);
        Due.is("restore()", x.restore(), 6);
        Due.isTrue("SHELVES stay", Told.shelves(x).equals(before));
        Due.is("what was taken away stays away", x.cost(0), -11);
        Due.is("what was put in stays", x.element(1, 0), 7);
    }

    private static void theValleyGoesOnApart() {
        MeatForDiamonds x = Due.valley("c0900;e3000;s06;");
        x.image();
        x.restore();
        Due.tell(x, "c0111;s11;t00;");
        Due.is("changes behind a restore do not reach the image", x.restore(), 6);
        Due.is("BIG", x.cellOf(0, 0), 9);
        Due.is("SHEEP", x.count(1), 1);
        x.keep(0, 1, 5, 9);
        Due.is("the next SHEEP's number", x.buys(0), 1);
    }

    private static void inMindLeavesTheImage() {
        MeatForDiamonds x = Due.valley("c0900;e3000;s06;");
        String before = Told.valley(x);
        x.image();
        x.waits(5);
        x.greedily(20, 0);
        x.drum(0, 0, 8, 0);
        x.seasons(20, 1, 0);
        x.twoThrows(0);
        x.bestHour(0, 0, 0);
        Due.is("restore()", x.restore(), 6);
        Due.isTrue("as it was", Told.valley(x).equals(before));
    }

    /** Promise 36: "-1 for others". */
    private static void countRanges() {
        MeatForDiamonds x = Due.valley("c0345;e3090;s06;");
        Due.range("count(what)", x::count, 0, 7, -1);
        Due.is("count(9)", x.count(9), -1);
    }

    private static void countNothing() {
        MeatForDiamonds x = new MeatForDiamonds();
        int[] due = {0, 0, 6, 0, 0, 0, 0, 0};
        for (int what = 0; what < 8; what++) {
            Due.is("count(" + what + ")", x.count(what), due[what]);
        }
    }

    private static void countAllThereCanBe() {
        MeatForDiamonds x = Due.valley("e3090;e3091;e3092;e3093;s00;s00;s00;s00;s00;s00;s00;d1;h17;");
        for (int c = 0; c < 8; c++) {
            x.lays(c, 9, 9, 9);
        }
        int[] due = {4, 7, 23, 1, 72, 72, 0, 36};
        for (int what = 0; what < 8; what++) {
            Due.is("count(" + what + ")", x.count(what), due[what]);
        }
    }

    private static void countOfEach() {
        MeatForDiamonds x = Due.valley("c0310;c7026;e1043;e1050;s06;");
        Due.is("BIG", x.count(4), 3);
        Due.is("SMALL", x.count(5), 3);
        Due.is("HUNGER", x.count(7), 9);
        Due.is("brought", x.throwsOne(0, 0), 15);
        Due.is("BIG", x.count(4), 0);
        Due.is("WORTH of all NESTS", x.count(6), 15);
        x.lays(0, 1, 0, 0);
        Due.is("the other", x.throwsOne(0, 0), 5);
        Due.is("two NESTS", x.nest(0) * 100 + x.nest(3), 1505);
        Due.is("WORTH of all NESTS", x.count(6), 20);
        Due.is("HUNGER: 4 and 5, fed by 4 and 1 more each", x.count(7), 9 - 4 + 1 - 4 + 1);
    }

    private static void countWhateverTheHour() {
        MeatForDiamonds x = Due.valley("e3010;e2021;e1042;e0583;s00;s00;d1;c0110;c7220;");
        int[] due = {4, 2, 0, 1, 3, 3, 0, 15};
        for (int hour = 0; hour < 24; hour++) {
            x.set(1, hour);
            due[2] = hour;
            for (int what = 0; what < 8; what++) {
                Due.is("count(" + what + ") at " + hour, x.count(what), due[what]);
            }
        }
    }
}
