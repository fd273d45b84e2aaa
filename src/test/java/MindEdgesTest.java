/** The edges of promises 12 to 19: throws in mind. */
public final class MindEdgesTest {
    private static final int NO_SUCH_GAIN = 1000000001;
    private static final int NO_GAIN = 1000000004;
    private static final String SEVEN = "s39;s39;s39;s39;s39;s39;";

    private MindEdgesTest() {
    }

    public static void main(String[] args) {
        bringsRanges();
        bringsTooFar();
        bringsByNoEagle();
        bringsTheLastOfEach();
        bringsNothingButAnEagleComes();
        bestCellRanges();
        bestCellOfSeveralTheLeast();
        bestCellNoFartherThanItFlies();
        bestCellIfNoneBringsAnything();
        bestCellOnlyIfSomeEagleLiftsIt();
        bestThrowOfNoSheep();
        bestThrowOfSeveralTheLeast();
        bestThrowLessItsPrice();
        bestThrowTheLastOfAll();
        gainBelowZero();
        bestHourRanges();
        bestHourNoneIsZero();
        bestHourOfSeveralTheLeast();
        bestHourTheLastIsTwentyThree();
        bestHourNoWaitOfADay();
        bestHourBehindTwentyThree();
        twoThrowsRanges();
        twoThrowsOfNoSheep();
        twoThrowsOfSeveralTheLeast();
        twoThrowsAtALoss();
        twoThrowsTheLastOfAll();
        twoThrowsTheSecondIsAsItIsThen();
        greedilyRanges();
        greedilyNoThrow();
        greedilyTwentyAtMost();
        greedilyAsLongAsGainIsAboveZero();
        greedilyOfAllSheepAndCells();
        inMindLeavesNoTrace();
        drumRanges();
        drumTooFar();
        drumNoThrow();
        drumOfSeveralTheLeast();
        drumEightThrows();
        drumWhateverDrumsAreNow();
        everySheepOntoEveryCell();
        eatenInThatCellAlone();
        Due.end();
    }

    /** Promise 12: "-1, -3". */
    private static void bringsRanges() {
        MeatForDiamonds x = Due.valley("c0123;e3090;s06;s69;");
        String before = Told.all(x);
        Due.range("brings(s, 0, 0)", s -> x.brings(s, 0, 0), 0, 1, -1);
        Due.range("brings(1, c, 0)", c -> x.brings(1, c, 0), 0, 7, -1);
        Due.range("brings(0, 0, what)", what -> x.brings(0, 0, what), 0, 3, -1);
        Due.is("all wrong", x.brings(2, 8, 4), -1);
        Due.unchanged(x, before);
        MeatForDiamonds none = Due.valley("c0123;e3090;");
        Due.is("no sheep", none.brings(0, 0, 0), -1);
    }

    private static void bringsTooFar() {
        int[] flies = {4, 6, 3, 3, 6, 2, 7, 7};
        for (int kind = 0; kind < 8; kind++) {
            MeatForDiamonds x = Due.valley("e3090;s" + kind + "9;");
            for (int what = 0; what < 4; what++) {
                Due.isTrue("as far as it flies", x.brings(0, flies[kind], what) >= 0);
                for (int c = flies[kind] + 1; c < 8; c++) {
                    Due.is("too far", x.brings(0, c, what), -3);
                }
                Due.is("no such cell", x.brings(0, 8, what), -1);
            }
        }
        MeatForDiamonds x = Due.valley("s59;");
        Due.is("no such what ahead of too far", x.brings(0, 7, 4), -1);
        Due.is("no such what ahead of too far", x.brings(0, 7, -1), -1);
        Due.is("no such sheep ahead of too far", x.brings(1, 7, 0), -1);
    }

    private static void bringsAre(MeatForDiamonds x, int s, int c, int... due) {
        for (int what = 0; what < due.length; what++) {
            Due.is("brings(" + s + ", " + c + ", " + what + ")", x.brings(s, c, what), due[what]);
        }
    }

    /** "the EAGLE (-4), its NEST (-4); 1 EATEN". */
    private static void bringsByNoEagle() {
        bringsAre(Due.valley("c0990;s06;"), 0, 0, 0, -4, -4, 0);
        bringsAre(Due.valley("c0997;e3090;s06;"), 0, 0, 0, -4, -4, 1);
        bringsAre(Due.valley("c0997;s06;"), 0, 0, 0, -4, -4, 1);
        bringsAre(Due.valley("c0990;e0290;s06;"), 0, 0, 0, -4, -4, 0);
        bringsAre(Due.valley("c0990;e0390;s06;"), 0, 0, 15, 0, 0, 0);
        bringsAre(Due.valley("c0990;e3000;s06;d1;t01;t01;t01;t01;"), 0, 0, 15, 0, 0, 0);
        bringsAre(Due.valley("c0990;e3000;s06;d1;t01;t01;t01;t01;t01;"), 0, 0, 0, -4, -4, 0);
    }

    private static void bringsTheLastOfEach() {
        MeatForDiamonds x = Due.valley("c7990;e0100;e0100;e0100;e3003;" + SEVEN + "s69;");
        bringsAre(x, 6, 7, 15, 3, 3, 0);
    }

    private static void bringsNothingButAnEagleComes() {
        bringsAre(Due.valley("c1990;e3002;s06;"), 0, 0, 0, 0, 2, 0);
        bringsAre(Due.valley("c0990;e3002;s79;"), 0, 0, 0, 0, 2, 0);
        bringsAre(Due.valley("c0990;e3002;s10;"), 0, 0, 0, 0, 2, 0);
    }

    /** Promise 13: "-1". */
    private static void bestCellRanges() {
        MeatForDiamonds x = Due.valley("c0123;e3090;s06;s69;");
        String before = Told.all(x);
        Due.range("bestCell(s)", x::bestCell, 0, 1, -1);
        Due.unchanged(x, before);
        Due.is("no sheep", new MeatForDiamonds().bestCell(0), -1);
        MeatForDiamonds all = Due.valley("e3090;" + SEVEN + "s69;");
        Due.range("bestCell(s)", all::bestCell, 0, 6, -1);
    }

    /** "of several the least". */
    private static void bestCellOfSeveralTheLeast() {
        MeatForDiamonds x = Due.valley("c2100;c3100;c4100;e3090;s00;");
        Due.is("three of one worth", x.bestCell(0), 2);
        x.lays(1, 0, 9, 0);
        Due.is("one SMALL one is less", x.bestCell(0), 2);
        x.lays(0, 9, 9, 0);
        Due.is("more stones, but it STICKS 1", x.bestCell(0), 0);
        x.lays(0, 9, 9, 4);
        Due.is("EATEN there", x.bestCell(0), 2);
        x.lays(0, 9, 9, 3);
        Due.is("not EATEN there", x.bestCell(0), 0);
    }

    private static void bestCellNoFartherThanItFlies() {
        int[] flies = {4, 6, 3, 3, 6, 2, 7, 7};
        for (int kind = 0; kind < 7; kind++) {
            MeatForDiamonds x = Due.valley("e3090;s" + kind + "9;");
            for (int c = flies[kind] + 1; c < 8; c++) {
                x.lays(c, 9, 9, 0);
            }
            Due.is("too far", x.bestCell(0), 0);
            x.lays(flies[kind], 0, 1, 0);
            Due.is("the last it flies to", x.bestCell(0), flies[kind]);
        }
    }

    private static void bestCellIfNoneBringsAnything() {
        Due.is("no stones", Due.valley("e3090;s09;").bestCell(0), 0);
        Due.is("no EAGLE", Due.valley("c3990;s09;").bestCell(0), 0);
        Due.is("BONE", Due.valley("c3990;e3090;s79;").bestCell(0), 0);
        Due.is("EATEN", Due.valley("c3999;e3090;s09;").bestCell(0), 0);
    }

    /** A sheep that no EAGLE lifts brings 0 wherever it is thrown. */
    private static void bestCellOnlyIfSomeEagleLiftsIt() {
        int[] weight = {15, 12, 19, 27, 12, 38, 12};
        for (int kind = 0; kind < weight.length; kind++) {
            for (int lacks = 0; lacks < 2; lacks++) {
                int hunger = Math.max(0, weight[kind] - 30);
                int strength = weight[kind] - hunger - lacks;
                String eagle = "e" + strength / 10 + strength % 10 + hunger + "0;";
                MeatForDiamonds x = Due.valley("c1990;" + eagle + "s" + kind + "9;");
                Due.is(kind + " by " + eagle + ", best cell", x.bestCell(0), 1 - lacks);
                Due.is(kind + " by " + eagle + ", best throw", x.bestThrow(), 1 - lacks);
            }
        }
    }

    /** Promise 14: "-4 no SHEEP". */
    private static void bestThrowOfNoSheep() {
        MeatForDiamonds x = Due.valley("c0990;e3090;");
        String before = Told.all(x);
        Due.is("bestThrow()", x.bestThrow(), -4);
        Due.is("gain()", x.gain(), NO_GAIN);
        Due.unchanged(x, before);
        Due.tell(x, "s39;");
        Due.is("one SHEEP", x.bestThrow(), 0);
        Due.is("its GAIN", x.gain(), 30 - 34);
    }

    /** "of several the least (10 the SHEEP and the CELL)". */
    private static void bestThrowOfSeveralTheLeast() {
        bestIs("c2100;c3100;e3090;s03;s03;", 2, 0);
        bestIs("c2100;c3100;e3090;s39;s03;s03;", 12, 0);
        bestIs("c2100;c0010;e3090;s39;s03;s40;", 22, 1);
        bestIs("s00;s03;s06;", 0, -5);
        bestIs("s00;s73;s76;", 10, -1);
        bestIs("c1010;c2100;e3090;s70;s40;s60;", 12, 1);
    }

    private static void bestIs(String text, int due, int gain) {
        MeatForDiamonds x = Due.valley(text);
        Due.is("bestThrow(), " + text, x.bestThrow(), due);
        Due.is("gain(), " + text, x.gain(), gain);
    }

    /** "that which brings most less its PRICE". */
    private static void bestThrowLessItsPrice() {
        bestIs("c0300;e3090;s29;s06;", 10, 10);
        bestIs("c0600;e3090;s29;s06;", 0, 16);
        bestIs("c0400;e3090;s29;s00;", 0, 6);
        bestIs("c0200;e3090;s29;s40;", 10, 1);
    }

    private static void bestThrowTheLastOfAll() {
        bestIs("c7300;e3090;" + SEVEN + "s69;", 67, 15);
        bestIs("c7300;e3090;" + SEVEN + "s09;", 60, -5);
    }

    /** Promise 15: a GAIN may be below 0; "Refused as told: -4". */
    private static void gainBelowZero() {
        bestIs("s39;", 0, -34);
        bestIs("s60;", 0, 0);
        bestIs("c0100;e3090;s00;", 0, 0);
        bestIs("c0500;e3090;s59;", 0, -3);
    }

    /** Promise 16: "-1, -3". */
    private static void bestHourRanges() {
        MeatForDiamonds x = Due.valley("c0123;e3090;s06;s69;");
        String before = Told.all(x);
        Due.range("bestHour(s, 0, 0)", s -> x.bestHour(s, 0, 0), 0, 1, -1);
        Due.range("bestHour(1, c, 0)", c -> x.bestHour(1, c, 0), 0, 7, -1);
        Due.range("bestHour(0, 0, what)", what -> x.bestHour(0, 0, what), 0, 1, -1);
        for (int c = 5; c < 8; c++) {
            Due.is("too far", x.bestHour(0, c, 0), -3);
            Due.is("too far", x.bestHour(0, c, 1), -3);
            Due.is("no such what ahead of too far", x.bestHour(0, c, 2), -1);
            Due.is("no such sheep ahead of too far", x.bestHour(2, c, 0), -1);
        }
        Due.is("just not too far", x.bestHour(0, 4, 0), 0);
        Due.unchanged(x, before);
        Due.is("no sheep", new MeatForDiamonds().bestHour(0, 0, 0), -1);
    }

    private static void hourIs(String text, int hour, int hours, int brought) {
        MeatForDiamonds x = Due.valley(text);
        x.set(1, hour);
        Due.is("bestHour at " + hour + ", " + text, x.bestHour(0, 0, 0), hours);
        Due.is("what, at " + hour + ", " + text, x.bestHour(0, 0, 1), brought);
        Due.is("HOUR", x.count(2), hour);
    }

    /** "(0 .. 23, 0: none)". */
    private static void bestHourNoneIsZero() {
        hourIs("c0300;e3090;s06;", 6, 0, 15);
        hourIs("c0300;e0390;s06;", 6, 0, 15);
        hourIs("c0300;s06;", 6, 0, 0);
        hourIs("e3090;s06;", 6, 0, 0);
        hourIs("c0309;e3090;s06;", 11, 0, 15);
        hourIs("c0309;e3090;s06;", 13, 0, 15);
    }

    private static void bestHourOfSeveralTheLeast() {
        hourIs("c0309;e3090;s06;", 10, 1, 15);
        hourIs("c0300;e0480;s06;", 6, 0, 15);
        hourIs("c0300;e0470;s06;", 6, 4, 15);
        hourIs("c0300;e0460;s06;", 6, 8, 15);
        hourIs("c0309;e0380;s06;", 9, 4, 15);
        hourIs("c0309;e0380;s06;", 8, 4, 15);
        hourIs("c0309;e0380;s06;", 7, 4, 15);
        hourIs("c0309;e0380;s06;", 6, 5, 15);
    }

    private static void bestHourTheLastIsTwentyThree() {
        hourIs("c0309;e0700;s06;", 12, 23, 15);
        hourIs("c0309;e3000;s06;", 14, 21, 15);
    }

    private static void bestHourNoWaitOfADay() {
        hourIs("c0309;e0600;s06;", 11, 0, 0);
        hourIs("c0300;e0600;s06;", 11, 0, 0);
        hourIs("c0300;e0700;s06;", 11, 20, 15);
    }

    /** "HOUR so many on": behind 23 it is 0. */
    private static void bestHourBehindTwentyThree() {
        hourIs("c0309;e3000;s06;", 23, 12, 15);
        hourIs("c0309;e3000;s06;", 0, 11, 15);
        hourIs("c0309;e1000;s06;", 23, 12, 15);
    }

    /** Promise 17: "Refused as told: -1, -4 no SHEEP". */
    private static void twoThrowsRanges() {
        MeatForDiamonds x = Due.valley("c0123;e3090;s06;s69;");
        String before = Told.all(x);
        Due.range("twoThrows(what)", x::twoThrows, 0, 1, NO_SUCH_GAIN);
        Due.unchanged(x, before);
    }

    private static void twoThrowsOfNoSheep() {
        MeatForDiamonds x = Due.valley("c0123;e3090;");
        Due.is("GAIN", x.twoThrows(0), NO_GAIN);
        Due.is("the first", x.twoThrows(1), NO_GAIN);
        Due.outside("no such what ahead of no SHEEP", x::twoThrows, 0, 1, NO_SUCH_GAIN);
    }

    private static void twoAre(String text, int together, int first) {
        MeatForDiamonds x = Due.valley(text);
        Due.is("twoThrows(0), " + text, x.twoThrows(0), together);
        Due.is("twoThrows(1), " + text, x.twoThrows(1), first);
    }

    /** "the first of them, of several the least". */
    private static void twoThrowsOfSeveralTheLeast() {
        twoAre("c1100;c3200;e3090;s03;", 5, 1);
        twoAre("c1100;c3400;e3090;s03;", 10, 3);
        twoAre("c1100;c3100;e3090;s00;", 0, 1);
        twoAre("c3100;e3090;s39;s00;s40;", -3, 20);
        twoAre("c3100;e3090;s39;s73;s40;", 0, 10);
        twoAre("s60;s60;", 0, 0);
    }

    private static void twoThrowsAtALoss() {
        twoAre("s39;", -68, 0);
        twoAre("s70;", -2, 0);
        twoAre("c0300;e3090;s39;", 15 - 68, 0);
        twoAre("c0200;e3090;s03;", 0, 0);
        twoAre("c0200;e3090;s00;", 0, 0);
    }

    private static void twoThrowsTheLastOfAll() {
        twoAre("c7200;e3090;" + SEVEN + "s63;", 10, 67);
        twoAre("c7100;e3090;" + SEVEN + "s63;", 5, 60);
    }

    /** "of all two one behind the other". */
    private static void twoThrowsTheSecondIsAsItIsThen() {
        // Fed once the EAGLE is too weak: both lose.
        twoAre("c0600;e0390;s06;", 10 - 5, 0);
        twoAre("c0600;e0390;s06;d1;", 20, 0);
        twoAre("c0600;e0790;s06;", 20, 0);
        // The painted one first feeds the EAGLE a little: the other weighs 15.
        twoAre("c0900;e0990;s40;s09;", 1 + 15, 0);
        twoAre("c0900;e0690;s40;s09;", 15 + 1, 10);
        // EATEN at 10, not at 11.
        MeatForDiamonds x = Due.valley("c0309;e3090;s06;h04;");
        Due.is("HOUR", x.count(2), 10);
        Due.is("the second at noon", x.twoThrows(0), 5);
        Due.is("the first wherever", x.twoThrows(1), 0);
    }

    /** Promise 18: "n times (0 .. 20) at most"; "-1". */
    private static void greedilyRanges() {
        MeatForDiamonds x = Due.valley("c0123;e3090;s06;s69;");
        String before = Told.all(x);
        for (int what = 0; what < 2; what++) {
            int w = what;
            Due.range("greedily(n, " + w + ")", n -> x.greedily(n, w), 0, 20, -1);
        }
        Due.range("greedily(3, what)", what -> x.greedily(3, what), 0, 1, -1);
        Due.range("greedily(0, what)", what -> x.greedily(0, what), 0, 1, -1);
        Due.is("neither", x.greedily(21, 2), -1);
        Due.unchanged(x, before);
        Due.outside("greedily(n, 0), no SHEEP", n -> new MeatForDiamonds().greedily(n, 0), 0, 20, -1);
    }

    private static void greedyIs(MeatForDiamonds x, int n, int together, int thrown) {
        Due.is("greedily(" + n + ", 0)", x.greedily(n, 0), together);
        Due.is("greedily(" + n + ", 1)", x.greedily(n, 1), thrown);
    }

    private static void greedilyNoThrow() {
        greedyIs(new MeatForDiamonds(), 20, 0, 0);
        greedyIs(Due.valley("c0900;e3090;"), 20, 0, 0);
        greedyIs(Due.valley("c0900;e3090;s06;"), 0, 0, 0);
        greedyIs(Due.valley("c0900;s06;"), 20, 0, 0);
    }

    private static void greedilyTwentyAtMost() {
        MeatForDiamonds x = Due.valley("c0900;c1900;c7300;e3090;s63;");
        greedyIs(x, 1, 5, 1);
        greedyIs(x, 19, 95, 19);
        greedyIs(x, 20, 100, 20);
        x.lays(7, 2, 0, 0);
        greedyIs(x, 20, 100, 20);
        x.lays(7, 1, 0, 0);
        greedyIs(x, 20, 95, 19);
        x.lays(7, 1, 1, 0);
        greedyIs(x, 20, 96, 20);
        greedyIs(x, 19, 95, 19);
    }

    /** "as long as its GAIN is above 0". */
    private static void greedilyAsLongAsGainIsAboveZero() {
        greedyIs(Due.valley("c0900;e3090;s00;"), 20, 0, 0);
        greedyIs(Due.valley("c0900;e3090;s40;"), 20, 9, 9);
        greedyIs(Due.valley("c0300;e3090;s03;"), 20, 5, 1);
        greedyIs(Due.valley("c0310;e3090;s03;"), 20, 6, 2);
        greedyIs(Due.valley("c0400;e3090;s03;"), 20, 10, 2);
        // It would gain later, but not now.
        greedyIs(Due.valley("c0300;e0280;s06;"), 20, 0, 0);
        greedyIs(Due.valley("c0300;e0390;s06;"), 20, 10, 1);
    }

    /** "the BEST THROW again and again": of whichever SHEEP, onto whichever CELL. */
    private static void greedilyOfAllSheepAndCells() {
        greedyIs(Due.valley("c0900;e3090;s39;s39;s09;"), 20, 15 + 15, 2);
        greedyIs(Due.valley("c0300;c4120;c7900;e3090;s39;s06;s16;s69;"), 20, 15 + 3 * 15 + 7, 5);
    }

    private static void inMindLeavesNoTrace() {
        String text = "c0906;c3221;e0390;e2072;s06;s40;s63;";
        String[] due = new String[8];
        for (int first = 0; first < 8; first++) {
            MeatForDiamonds x = Due.valley(text);
            for (int i = 0; i < 8; i++) {
                int call = (first + i) % 8;
                String answers = inMind(x, call);
                due[call] = due[call] == null ? answers : due[call];
                Due.isTrue("call " + call + ", the " + i + ". behind " + first + ": " + answers, answers.equals(due[call]));
            }
        }
    }

    private static String inMind(MeatForDiamonds x, int call) {
        return switch (call) {
            case 0 -> x.greedily(20, 0) + " " + x.greedily(20, 1);
            case 1 -> x.merchants(0) + " " + x.merchants(3);
            case 2 -> x.seasons(3, 7, 0) + " " + x.seasons(3, 7, 1);
            case 3 -> x.twoThrows(0) + " " + x.twoThrows(1);
            case 4 -> x.bestHour(0, 0, 0) + " " + x.bestHour(0, 3, 1);
            case 5 -> x.drum(0, 0, 8, 0) + " " + x.drum(1, 3, 8, 1);
            case 6 -> x.man(12) + " " + x.man(29);
            default -> x.bestThrow() + " " + x.gain();
        };
    }

    /** Promise 19: "n THROWS (0 .. 8)"; "-1, -3". */
    private static void drumRanges() {
        MeatForDiamonds x = Due.valley("c0123;e3090;s06;s69;");
        String before = Told.all(x);
        Due.range("drum(s, 0, 1, 0)", s -> x.drum(s, 0, 1, 0), 0, 1, -1);
        Due.range("drum(1, c, 1, 0)", c -> x.drum(1, c, 1, 0), 0, 7, -1);
        Due.range("drum(0, 0, n, 0)", n -> x.drum(0, 0, n, 0), 0, 8, -1);
        Due.range("drum(0, 0, n, 1)", n -> x.drum(0, 0, n, 1), 0, 8, -1);
        Due.range("drum(0, 0, 1, what)", what -> x.drum(0, 0, 1, what), 0, 1, -1);
        Due.unchanged(x, before);
        Due.is("no sheep", new MeatForDiamonds().drum(0, 0, 0, 0), -1);
    }

    private static void drumTooFar() {
        MeatForDiamonds x = Due.valley("c4900;c5900;e3090;s06;");
        Due.is("as far as it flies", x.drum(0, 4, 1, 1), 15);
        for (int c = 5; c < 8; c++) {
            Due.is("too far", x.drum(0, c, 1, 0), -3);
            Due.is("too far, no throw", x.drum(0, c, 0, 1), -3);
            Due.is("too many ahead of too far", x.drum(0, c, 9, 0), -1);
            Due.is("too few ahead of too far", x.drum(0, c, -1, 0), -1);
            Due.is("no such what ahead of too far", x.drum(0, c, 1, 2), -1);
            Due.is("no such sheep ahead of too far", x.drum(1, c, 1, 0), -1);
        }
        Due.is("no such cell", x.drum(0, 8, 1, 0), -1);
    }

    private static void drumIs(MeatForDiamonds x, int n, int bits, int brought) {
        Due.is("drum, " + n, x.drum(0, 0, n, 0), bits);
        Due.is("what, " + n, x.drum(0, 0, n, 1), brought);
    }

    private static void drumNoThrow() {
        drumIs(Due.valley("c0900;e0390;s06;"), 0, 0, 0);
        drumIs(Due.valley("c0900;e0390;s06;"), 1, 0, 15);
        drumIs(Due.valley("s06;"), 0, 0, 0);
    }

    /** "of several the least". */
    private static void drumOfSeveralTheLeast() {
        for (int n = 0; n <= 8; n++) {
            drumIs(Due.valley("c0900;s06;"), n, 0, 0);
            drumIs(Due.valley("e3090;s06;"), n, 0, 0);
            drumIs(Due.valley("c0900;e3090;s06;"), n, 0, Math.min(45, 15 * n));
        }
    }

    private static void drumEightThrows() {
        MeatForDiamonds x = Due.valley("c0900;e0390;s06;");
        // Drummed off it comes again; fed it comes again five throws later.
        drumIs(x, 2, 1, 30);
        drumIs(x, 3, 3, 45);
        drumIs(x, 6, 3, 45);
        drumIs(x, 7, 1, 45);
        drumIs(x, 8, 1, 45);
        // The set of the seventh throw alone, and one with the seventh and those ahead of it.
        drumIs(Due.valley("c0980;e1930;e0441;s54;"), 8, 64, 52);
        drumIs(Due.valley("c0640;e0150;s66;"), 8, 120, 34);
        drumIs(Due.valley("c0490;e0490;s68;"), 8, 79, 29);
    }

    /** "each with DRUMS or without": whatever they are now, and they stay so. */
    private static void drumWhateverDrumsAreNow() {
        MeatForDiamonds x = Due.valley("c0900;e0390;s06;d1;");
        String before = Told.all(x);
        drumIs(x, 1, 0, 15);
        drumIs(x, 3, 3, 45);
        drumIs(x, 8, 1, 45);
        Due.unchanged(x, before);
    }

    /** Promises 10, 12, 16, 19, 27 and 32: that SHEEP, that CELL, and no other. */
    private static void everySheepOntoEveryCell() {
        int[][] brought = {{0, 1, 1, 1, 5, 5, 5, 5}, {0, 1, 2, 3, 5, 6, 7, 10}, {0, 1, 2, 2, 5, 6, 6, 10}};
        MeatForDiamonds x = Due.valley("c0000;c1010;c2020;c3030;c4100;c5110;c6120;c7200;e3090;s63;s69;s66;");
        x.image();
        for (int s = 0; s < 3; s++) {
            for (int c = 0; c < 8; c++) {
                int due = brought[s][c];
                String which = "sheep " + s + " onto cell " + c;
                Due.is(which + ", brings", x.brings(s, c, 0), due);
                Due.is(which + ", bestHour", x.bestHour(s, c, 1), due);
                Due.is(which + ", drum", x.drum(s, c, 1, 1), due);
                Due.is(which + ", whose", x.whose(c, due) >> s & 1, 1);
                Due.row(x, 0, 0, due);
                Due.is(which + ", judge", x.judge(s, c, 0), -4);
                x.put(0, 0, due + 1);
                Due.is(which + ", judge", x.judge(s, c, 0), 0);
                Due.is(which + ", throwsOne", x.throwsOne(s, c), due);
                x.restore();
            }
        }
    }

    private static void eatenInThatCellAlone() {
        for (int nine = 0; nine < 8; nine++) {
            MeatForDiamonds x = Due.valley("c" + nine + "009;e3092;s63;s69;s66;");
            for (int s = 0; s < 3; s++) {
                for (int c = 0; c < 8; c++) {
                    bringsAre(x, s, c, 0, c == nine ? -4 : 0, c == nine ? -4 : 2, c == nine ? 1 : 0);
                }
                Due.is("safe", x.safe(s), 255 - (1 << nine));
            }
        }
    }
}
