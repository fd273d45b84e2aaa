/** The edges of what "Terms" tells: kinds, a THROW, a WAIT. */
public final class TermsEdgesTest {
    private TermsEdgesTest() {
    }

    public static void main(String[] args) {
        everyKindWithEveryFigure();
        snakesByTwoCut();
        snakesSleepFromElevenToThirteen();
        eatenBringsNothing();
        bigOnesFirstAsManyAsItSticks();
        stonesAreGone();
        justStrongEnough();
        waryBelowFive();
        mostHungerOfSeveralTheLeast();
        worthOfStones();
        drummedOff();
        waryComesToFiveByDrums();
        fed();
        fedLessWary();
        allOthersAreHungrier();
        byNoEagle();
        hourBehindTwentyThree();
        thrownAsOftenAsOneLikes();
        waitsOfEveryLength();
        waitLeavesTheRest();
        Due.end();
    }

    /** A valley with one sheep, and what a text tells besides. */
    private static MeatForDiamonds withSheep(int kind, int figure, String text) {
        return Due.valley("s" + kind + figure + ";" + text);
    }

    /** WEIGHT, STICKS, FLIES, PRICE, each kind's told flatly. */
    private static int[] numbersOf(int kind, int f) {
        return switch (kind) {
            case 0 -> new int[] {6 + f, 1 + f / 3, 4, 5};
            case 1 -> new int[] {3 + f, f / 3, 6, 3};
            case 2 -> new int[] {10 + f, 3 + f / 3, 3, 5 + f};
            case 3 -> new int[] {18 + f, 3 + f / 3, 3, 25 + f};
            case 4 -> new int[] {3 + f, 1 + f / 3, 6, 4};
            case 5 -> new int[] {20 + 2 * f, 6 + 2 * (f / 3), 2, 10 + 2 * f};
            case 6 -> new int[] {3 + f, f / 3, 7, 0};
            default -> new int[] {2, 0, 7, 1};
        };
    }

    private static void everyKindWithEveryFigure() {
        for (int kind = 0; kind < 8; kind++) {
            for (int f = 0; f < 10; f++) {
                MeatForDiamonds x = withSheep(kind, f, "");
                Due.is("KIND", x.sheep(0, 0), kind);
                Due.is("FIGURE", x.sheep(0, 1), f);
                int[] due = numbersOf(kind, f);
                for (int i = 0; i < due.length; i++) {
                    Due.is("sheep " + kind + " " + f + ", what " + (i + 2), x.sheep(0, i + 2), due[i]);
                }
            }
        }
    }

    /** "EATEN, if SNAKES there are more than WEIGHT by 2, cut". */
    private static void snakesByTwoCut() {
        for (int kind = 0; kind < 8; kind++) {
            for (int f = 0; f < 10; f++) {
                int half = numbersOf(kind, f)[0] / 2;
                MeatForDiamonds x = withSheep(kind, f, "e3090;");
                if (half <= 9) {
                    x.lays(0, 1, 1, half);
                    Due.is(kind + " " + f + " among " + half, x.brings(0, 0, 3), 0);
                }
                x.lays(0, 1, 1, Math.min(9, half + 1));
                Due.is(kind + " " + f + " among one more", x.brings(0, 0, 3), half < 9 ? 1 : 0);
            }
        }
    }

    /** ".. and HOUR is not 11 .. 13". */
    private static void snakesSleepFromElevenToThirteen() {
        MeatForDiamonds x = withSheep(7, 0, "c0009;e3090;");
        for (int hour = 0; hour < 24; hour++) {
            x.set(1, hour);
            boolean asleep = hour == 11 || hour == 12 || hour == 13;
            Due.is("eaten at " + hour, x.brings(0, 0, 3), asleep ? 0 : 1);
            Due.is("carried at " + hour, x.brings(0, 0, 1), asleep ? 0 : -4);
        }
    }

    /** "EATEN, or by no EAGLE: it brings 0, the stones stay." */
    private static void eatenBringsNothing() {
        MeatForDiamonds x = withSheep(0, 6, "c0347;e3082;e3091;d1;");
        Due.is("eaten", x.throwsOne(0, 0), 0);
        Due.is("BIG stay", x.cellOf(0, 0), 3);
        Due.is("SMALL stay", x.cellOf(0, 1), 4);
        Due.is("SNAKES stay", x.cellOf(0, 2), 7);
        Due.is("WORTH of NESTS", x.count(6), 0);
        Due.is("HUNGER from 8", x.eagle(0, 1), 9);
        Due.is("HUNGER from 9", x.eagle(1, 1), 9);
        Due.is("none is warier", x.eagle(0, 3) + x.eagle(1, 3), 0);
        Due.is("HOUR", x.count(2), 7);
    }

    /** "it would hold BIG stones, as many as it STICKS, then SMALL ones". */
    private static void bigOnesFirstAsManyAsItSticks() {
        holds(1, 0, 3, 3, 0);
        holds(0, 0, 3, 3, 5);
        holds(0, 3, 3, 3, 10);
        holds(0, 6, 3, 3, 15);
        holds(0, 9, 3, 3, 16);
        holds(2, 6, 3, 3, 17);
        holds(2, 9, 3, 3, 18);
        holds(5, 3, 3, 3, 18);
        holds(5, 9, 9, 9, 48);
        holds(5, 9, 9, 2, 47);
        holds(5, 9, 9, 3, 48);
        holds(5, 9, 0, 9, 9);
        holds(5, 9, 0, 0, 0);
        holds(0, 6, 0, 2, 2);
        holds(0, 6, 0, 3, 3);
        holds(0, 6, 0, 4, 3);
        holds(7, 9, 9, 9, 0);
    }

    private static void holds(int kind, int figure, int big, int small, int due) {
        MeatForDiamonds x = withSheep(kind, figure, "c0" + big + small + "0;e3090;");
        String what = kind + " " + figure + " onto " + big + " " + small;
        Due.is(what + ", in mind", x.brings(0, 0, 0), due);
        Due.is(what, x.throwsOne(0, 0), due);
        Due.is(what + ": what is left", x.left(0), 5 * big + small - due);
        Due.is(what + ": in the NEST", x.nest(0), due);
    }

    /** "the stones are gone". */
    private static void stonesAreGone() {
        MeatForDiamonds x = withSheep(0, 9, "c0330;c1995;e3090;");
        x.throwsOne(0, 0);
        Due.is("BIG", x.cellOf(0, 0), 0);
        Due.is("SMALL", x.cellOf(0, 1), 2);
        x.throwsOne(0, 0);
        Due.is("SMALL", x.cellOf(0, 1), 0);
        Due.is("none is left", x.throwsOne(0, 0), 0);
        Due.is("nor below 0", x.cellOf(0, 0) + x.cellOf(0, 1), 0);
        x.throwsOne(0, 1);
        Due.is("BIG", x.cellOf(1, 0), 5);
        Due.is("SMALL", x.cellOf(1, 1), 9);
        Due.is("SNAKES", x.cellOf(1, 2), 5);
    }

    /** "the EAGLES whose STRENGTH and HUNGER together are WEIGHT or more". */
    private static void justStrongEnough() {
        carrierIs("e1020;s06;", 0);
        carrierIs("e1020;s07;", -4);
        carrierIs("e2990;s59;", 0);
        carrierIs("e2890;s59;", -4);
        carrierIs("e0110;s70;", 0);
        carrierIs("e0100;s70;", -4);
        carrierIs("e0200;s70;", 0);
        carrierIs("s70;", -4);
        carrierIs("e1010;e1011;e1012;e1023;s06;", 3);
    }

    private static void carrierIs(String text, int due) {
        MeatForDiamonds x = Due.valley(text);
        Due.is("carrier, " + text, x.brings(0, 0, 1), due);
        Due.is("its nest, " + text, x.brings(0, 0, 2), due == -4 ? -4 : x.eagle(due, 2));
    }

    /** ".. and who are WARY below 5". */
    private static void waryBelowFive() {
        MeatForDiamonds x = Due.valley("e3000;s70;d1;t00;t00;t00;t00;");
        Due.is("WARY", x.eagle(0, 3), 4);
        Due.is("4 comes", x.brings(0, 0, 1), 0);
        x.throwsOne(0, 0);
        Due.is("WARY", x.eagle(0, 3), 5);
        Due.is("5 does not", x.brings(0, 0, 1), -4);
        Due.tell(x, "e2042;");
        Due.is("but another, less hungry", x.brings(0, 0, 1), 1);
    }

    /** "the one with the most HUNGER (of several the least) carries it". */
    private static void mostHungerOfSeveralTheLeast() {
        carrierIs("e3030;e2041;e0192;s06;", 1);
        carrierIs("e0180;e1081;e2082;s06;", 1);
        carrierIs("e3000;e3001;e3002;e3003;s06;", 0);
        carrierIs("e3000;e3001;e3012;e3013;s06;", 2);
        carrierIs("e3080;e3081;e3082;e3093;s06;", 3);
        carrierIs("e3090;e3091;e3092;e3083;s06;", 0);
    }

    /** "NEST's WORTH is 5 for each BIG one and 1 for each SMALL one more (that is what the THROW brings)". */
    private static void worthOfStones() {
        MeatForDiamonds x = Due.valley("c0120;c1030;c2100;e3093;e3002;s06;");
        Due.is("BIG and SMALL", x.throwsOne(0, 0), 7);
        Due.is("NEST 3", x.nest(3), 7);
        x.waits(60);
        Due.is("SMALL", x.throwsOne(0, 1), 3);
        Due.is("one more", x.nest(3), 10);
        Due.is("the other is hungrier now", x.throwsOne(0, 2), 5);
        Due.is("NEST 2", x.nest(2), 5);
        Due.is("NEST 3 stays", x.nest(3), 10);
    }

    /** "with DRUMS its HUNGER is 1 more (9 at most), WARY 1 more". */
    private static void drummedOff() {
        int[] before = {0, 7, 8, 9};
        int[] after = {1, 8, 9, 9};
        for (int i = 0; i < before.length; i++) {
            MeatForDiamonds x = Due.valley("c0900;e30" + before[i] + "0;s09;d1;");
            Due.is("it brings as much", x.throwsOne(0, 0), 20);
            Due.is("HUNGER " + before[i], x.eagle(0, 1), after[i]);
            Due.is("WARY", x.eagle(0, 3), 1);
        }
    }

    /** "(9 at most)": drums alone bring an EAGLE to WARY 5, for then it comes no more. */
    private static void waryComesToFiveByDrums() {
        MeatForDiamonds x = Due.valley("e3000;s70;d1;");
        int[] due = {1, 2, 3, 4, 5, 5, 5, 5, 5, 5, 5};
        for (int wary : due) {
            x.throwsOne(0, 0);
            Due.is("WARY", x.eagle(0, 3), wary);
        }
        x.set(0, 0);
        x.throwsOne(0, 0);
        Due.is("not fed, for it does not come", x.eagle(0, 3), 5);
    }

    /** "else HUNGER is WEIGHT by 3, cut, less .. (0 at least)". */
    private static void fed() {
        fedIs(9, "s06;", 5);
        fedIs(5, "s06;", 1);
        fedIs(4, "s06;", 0);
        fedIs(3, "s06;", 0);
        fedIs(0, "s06;", 0);
        fedIs(5, "s08;", 1);
        fedIs(5, "s09;", 0);
        fedIs(6, "s09;", 1);
        fedIs(9, "s59;", 0);
        fedIs(9, "s70;", 9);
        fedIs(1, "s10;", 0);
        fedIs(2, "s12;", 1);
    }

    private static void fedIs(int hunger, String sheep, int due) {
        MeatForDiamonds x = Due.valley("e30" + hunger + "0;" + sheep);
        x.throwsOne(0, 0);
        Due.is("fed by " + sheep + " HUNGER " + hunger, x.eagle(0, 1), due);
        Due.is("WARY stays 0", x.eagle(0, 3), 0);
    }

    /** "WARY 1 less (0 at least)". */
    private static void fedLessWary() {
        MeatForDiamonds x = Due.valley("e3000;s70;d1;t00;t00;d0;");
        int[] due = {1, 0, 0};
        for (int wary : due) {
            x.throwsOne(0, 0);
            Due.is("WARY", x.eagle(0, 3), wary);
        }
    }

    /** "All other EAGLES have HUNGER 1 more (9 at most)." */
    private static void allOthersAreHungrier() {
        for (int drums = 0; drums < 2; drums++) {
            MeatForDiamonds x = Due.valley("c0900;e3090;e3091;e3082;e0103;s06;d" + drums + ";");
            Due.is("the first carries it", x.throwsOne(0, 0), 15);
            Due.is("from 9", x.eagle(1, 1), 9);
            Due.is("from 8", x.eagle(2, 1), 9);
            Due.is("from 0, too weak", x.eagle(3, 1), 1);
            Due.is("none of them is warier", x.eagle(1, 3) + x.eagle(2, 3) + x.eagle(3, 3), 0);
            Due.is("nor stronger", x.eagle(1, 0) + x.eagle(2, 0) + x.eagle(3, 0), 61);
        }
    }

    /** ".. or by no EAGLE": all are other ones then. */
    private static void byNoEagle() {
        for (int drums = 0; drums < 2; drums++) {
            MeatForDiamonds x = Due.valley("c0450;e0183;e0291;s06;d" + drums + ";");
            Due.is("too heavy", x.throwsOne(0, 0), 0);
            Due.is("from 8", x.eagle(0, 1), 9);
            Due.is("from 9", x.eagle(1, 1), 9);
            Due.is("none is warier", x.eagle(0, 3) + x.eagle(1, 3), 0);
            Due.is("stones stay", x.cellOf(0, 0) * 10 + x.cellOf(0, 1), 45);
            Due.is("WORTH", x.count(6), 0);
            Due.is("HOUR", x.count(2), 7);
        }
        MeatForDiamonds wary = Due.valley("c0500;e3000;s70;s06;d1;t00;t00;t00;t00;t00;");
        Due.is("too wary", wary.throwsOne(1, 0), 0);
        Due.is("hungrier all the same", wary.eagle(0, 1), 6);
        Due.is("stones stay", wary.cellOf(0, 0), 5);
    }

    /** "HOUR is 1 more (behind 23 it is 0)." */
    private static void hourBehindTwentyThree() {
        MeatForDiamonds x = Due.valley("c0009;e3090;s06;");
        x.set(1, 22);
        x.throwsOne(0, 1);
        Due.is("HOUR", x.count(2), 23);
        x.throwsOne(0, 1);
        Due.is("HOUR", x.count(2), 0);
        x.set(1, 23);
        x.throwsOne(0, 0);
        Due.is("HOUR, eaten", x.count(2), 0);
        x.throwsOne(0, 1);
        Due.is("HOUR", x.count(2), 1);
    }

    /** "each can be thrown as often as one likes". */
    private static void thrownAsOftenAsOneLikes() {
        MeatForDiamonds x = Due.valley("s60;");
        for (int i = 0; i < 200; i++) {
            Due.is("throw " + i, x.throwsOne(0, 7), 0);
        }
        Due.is("it is still there", x.count(1), 1);
        Due.is("HOUR", x.count(2), (6 + 200) % 24);
    }

    /** "A WAIT of h hours (1 .. 60): HOUR so many on, HUNGER of each h by 4, cut, more (9 at most)." */
    private static void waitsOfEveryLength() {
        for (int h = 1; h <= 60; h++) {
            MeatForDiamonds x = Due.valley("e1000;e1030;e1080;e1090;");
            Due.is("waits(" + h + ")", x.waits(h), (6 + h) % 24);
            Due.is("from 0", x.eagle(0, 1), h < 36 ? h / 4 : 9);
            Due.is("from 3", x.eagle(1, 1), h < 24 ? 3 + h / 4 : 9);
            Due.is("from 8", x.eagle(2, 1), h < 4 ? 8 : 9);
            Due.is("from 9", x.eagle(3, 1), 9);
        }
    }

    private static void waitLeavesTheRest() {
        MeatForDiamonds x = Due.valley("c0345;e3000;e2911;s70;d1;t01;t01;t01;t01;t01;");
        x.waits(60);
        Due.is("WARY stays", x.eagle(0, 3) * 10 + x.eagle(1, 3), 5);
        Due.is("STRENGTH stays", x.eagle(0, 0) * 100 + x.eagle(1, 0), 3029);
        Due.is("DRUMS stay", x.count(3), 1);
        Due.is("the cell stays", x.cellOf(0, 0) * 100 + x.cellOf(0, 1) * 10 + x.cellOf(0, 2), 345);
        Due.is("HOUR", x.count(2), (6 + 5 + 60) % 24);
        Due.is("HUNGER of each, WARY or not", x.count(7), 18);
    }
}
