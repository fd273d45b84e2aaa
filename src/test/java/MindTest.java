/** Promises 12 to 19: throws in mind. */
public final class MindTest {
    private MindTest() {
    }

    public static void main(String[] args) {
        bringing();
        bringingRefused();
        bestCells();
        bestThrows();
        bestHours();
        bestHoursRefused();
        twoOfThem();
        twoRefused();
        greed();
        drums();
        drumsRefused();
        nothingChanges();
        Due.end();
    }

    private static void bringsAre(MeatForDiamonds x, int s, int c, int... due) {
        for (int what = 0; what < due.length; what++) {
            Due.is("brings(" + s + ", " + c + ", " + what + ")", x.brings(s, c, what), due[what]);
        }
    }

    private static void bringing() {
        MeatForDiamonds x = Due.valley("c0230;c1119;c2040;e2043;e1091;e3000;s06;s39;");
        bringsAre(x, 0, 0, 11, 1, 1, 0);
        bringsAre(x, 0, 1, 0, -4, -4, 1);
        bringsAre(x, 0, 2, 3, 1, 1, 0);
        bringsAre(x, 1, 0, 13, 2, 0, 0);
        x.set(1, 11);
        bringsAre(x, 0, 1, 6, 1, 1, 0);
        x.set(1, 13);
        bringsAre(x, 0, 1, 6, 1, 1, 0);
        x.set(1, 10);
        bringsAre(x, 0, 1, 0, -4, -4, 1);
        x.set(1, 14);
        bringsAre(x, 0, 1, 0, -4, -4, 1);
        MeatForDiamonds heavy = Due.valley("c0300;e1091;s59;");
        bringsAre(heavy, 0, 0, 0, -4, -4, 0);
        MeatForDiamonds edge = Due.valley("c0300;e0842;e0752;s06;");
        bringsAre(edge, 0, 0, 15, 1, 2, 0);
        MeatForDiamonds even = Due.valley("c0300;e0951;e1252;s06;");
        bringsAre(even, 0, 0, 15, 0, 1, 0);
        MeatForDiamonds bones = Due.valley("c0902;c1901;e0103;s79;");
        bringsAre(bones, 0, 0, 0, -4, -4, 1);
        bringsAre(bones, 0, 1, 0, -4, -4, 0);
        bones.waits(4);
        bringsAre(bones, 0, 1, 0, 0, 3, 0);
    }

    private static void bringingRefused() {
        MeatForDiamonds x = Due.valley("s00;");
        Due.is("no such sheep", x.brings(1, 0, 0), -1);
        Due.is("no such sheep", x.brings(-1, 0, 0), -1);
        Due.is("no such cell", x.brings(0, 8, 0), -1);
        Due.is("no such cell", x.brings(0, -1, 0), -1);
        Due.is("no such what", x.brings(0, 0, 4), -1);
        Due.is("no such what", x.brings(0, 0, -1), -1);
        Due.is("no such what ahead of too far", x.brings(0, 5, 4), -1);
        Due.is("too far", x.brings(0, 5, 0), -3);
        Due.is("too far", x.brings(0, 7, 3), -3);
    }

    private static void bestCells() {
        MeatForDiamonds x = Due.valley("c0100;c2200;c3200;c4309;c5900;e3090;s06;s10;s60;");
        Due.is("of several the least", x.bestCell(0), 2);
        x.set(1, 12);
        Due.is("snakes asleep", x.bestCell(0), 4);
        Due.is("none sticks", x.bestCell(1), 0);
        Due.is("no such sheep", x.bestCell(3), -1);
        Due.is("no such sheep", x.bestCell(-1), -1);
        MeatForDiamonds far = Due.valley("c4100;c5900;e3090;s06;s16;");
        Due.is("as far as it flies", far.bestCell(0), 4);
        Due.is("farther", far.bestCell(1), 5);
        Due.is("no eagle", Due.valley("c3900;s06;").bestCell(0), 0);
    }

    private static void bestThrows() {
        MeatForDiamonds x = Due.valley("c1200;c6100;e3090;s03;s40;s00;");
        Due.is("bestThrow()", x.bestThrow(), 1);
        Due.is("gain()", x.gain(), 5);
        x.lays(1, 0, 0, 0);
        Due.is("the painted one's", x.bestThrow(), 16);
        Due.is("its gain", x.gain(), 1);
        MeatForDiamonds loss = Due.valley("s39;");
        Due.is("the least loss", loss.bestThrow(), 0);
        Due.is("loss", loss.gain(), -34);
        MeatForDiamonds later = Due.valley("s39;s60;s60;");
        Due.is("of several the least", later.bestThrow(), 10);
        Due.is("gain 0", later.gain(), 0);
        MeatForDiamonds none = new MeatForDiamonds();
        Due.is("no sheep", none.bestThrow(), -4);
        Due.is("no sheep", none.gain(), 1000000004);
    }

    private static void hourIs(String text, int hours, int brought) {
        MeatForDiamonds x = Due.valley(text);
        Due.is("bestHour, " + text, x.bestHour(0, 0, 0), hours);
        Due.is("what then, " + text, x.bestHour(0, 0, 1), brought);
    }

    private static void bestHours() {
        hourIs("c0306;e0880;s06;", 0, 15);
        hourIs("c0300;e0540;s06;", 12, 15);
        hourIs("c0309;e3000;s06;", 5, 15);
        hourIs("c0300;s06;", 0, 0);
        hourIs("c0300;e0340;s06;", 20, 15);
        hourIs("c0300;e0330;s06;", 0, 0);
        hourIs("c0309;e3000;s06;h08;", 21, 15);
        hourIs("c0309;e3000;s06;h06;", 0, 15);
        hourIs("c0309;e3000;s06;h07;", 0, 15);
        hourIs("c0309;e0570;s06;", 5, 15);
        hourIs("c0309;e0460;s06;", 0, 0);
    }

    private static void bestHoursRefused() {
        MeatForDiamonds x = Due.valley("s00;");
        Due.is("no such sheep", x.bestHour(1, 0, 0), -1);
        Due.is("no such cell", x.bestHour(0, 8, 0), -1);
        Due.is("no such cell", x.bestHour(0, -1, 0), -1);
        Due.is("no such what", x.bestHour(0, 0, 2), -1);
        Due.is("no such what", x.bestHour(0, 5, -1), -1);
        Due.is("too far", x.bestHour(0, 5, 0), -3);
    }

    private static void twoAre(String text, int together, int first) {
        MeatForDiamonds x = Due.valley(text);
        Due.is("twoThrows(0), " + text, x.twoThrows(0), together);
        Due.is("twoThrows(1), " + text, x.twoThrows(1), first);
    }

    private static void twoOfThem() {
        twoAre("c0900;e3090;s03;", 10, 0);
        twoAre("c0100;e3090;s00;", -5, 0);
        twoAre("c1100;c3100;e3090;s00;", 0, 1);
        twoAre("s39;", -68, 0);
        twoAre("s39;s60;", 0, 10);
        twoAre("c4200;c6100;e0890;s07;s40;", 6, 4);
        twoAre("c0600;e0490;s07;s25;", 5, 0);
        // Behind the fat one, which gains most, the eagle is too full: two painted ones gain more.
        twoAre("c0900;e0190;s20;s45;", 12, 10);
        // Behind a throw for nothing the eagle is hungry enough.
        twoAre("c2300;c7009;e0480;s07;s60;", 10, 17);
    }

    private static void twoRefused() {
        MeatForDiamonds none = new MeatForDiamonds();
        Due.is("no sheep", none.twoThrows(0), 1000000004);
        Due.is("no sheep", none.twoThrows(1), 1000000004);
        Due.is("no such what comes first", none.twoThrows(2), 1000000001);
        MeatForDiamonds x = Due.valley("s00;");
        Due.is("no such what", x.twoThrows(2), 1000000001);
        Due.is("no such what", x.twoThrows(-1), 1000000001);
    }

    private static void greed() {
        MeatForDiamonds x = Due.valley("c0900;e3090;s03;");
        Due.is("as long as it gains", x.greedily(20, 0), 20);
        Due.is("how many", x.greedily(20, 1), 4);
        Due.is("three", x.greedily(3, 0), 15);
        Due.is("three", x.greedily(3, 1), 3);
        Due.is("none", x.greedily(0, 0), 0);
        Due.is("none", x.greedily(0, 1), 0);
        Due.is("too many", x.greedily(21, 0), -1);
        Due.is("too few", x.greedily(-1, 1), -1);
        Due.is("no such what", x.greedily(3, 2), -1);
        Due.is("no such what", x.greedily(3, -1), -1);
        MeatForDiamonds all = Due.valley("c0990;c1990;c2990;e3090;s06;");
        Due.is("nine of 10 each", all.greedily(20, 0), 90);
        Due.is("nine", all.greedily(20, 1), 9);
        Due.is("no sheep", new MeatForDiamonds().greedily(20, 1), 0);
        MeatForDiamonds one = Due.valley("c5100;e3090;s39;s40;");
        Due.is("a gain of 1 is one", one.greedily(20, 0), 1);
        Due.is("once", one.greedily(20, 1), 1);
        MeatForDiamonds late = Due.valley("c0300;e0410;s06;");
        Due.is("no gain now, no more tried", late.greedily(20, 1), 0);
    }

    private static void drumIs(MeatForDiamonds x, int n, int bits, int brought) {
        Due.is("drum, " + n, x.drum(0, 0, n, 0), bits);
        Due.is("what, " + n, x.drum(0, 0, n, 1), brought);
    }

    private static void drums() {
        MeatForDiamonds x = Due.valley("c0900;e0390;s06;");
        for (int drums = 0; drums < 2; drums++) {
            x.set(0, drums);
            drumIs(x, 0, 0, 0);
            drumIs(x, 1, 0, 15);
            drumIs(x, 2, 1, 30);
            drumIs(x, 3, 3, 45);
            drumIs(x, 6, 3, 45);
            drumIs(x, 7, 1, 45);
            drumIs(x, 8, 1, 45);
        }
        drumIs(Due.valley("c0900;e3000;s06;"), 8, 0, 45);
        drumIs(Due.valley("c0900;s06;"), 8, 0, 0);
    }

    private static void drumsRefused() {
        MeatForDiamonds x = Due.valley("s00;");
        Due.is("no such sheep", x.drum(1, 0, 1, 0), -1);
        Due.is("no such cell", x.drum(0, 8, 1, 0), -1);
        Due.is("no such cell", x.drum(0, -1, 1, 0), -1);
        Due.is("too many", x.drum(0, 0, 9, 0), -1);
        Due.is("too few", x.drum(0, 0, -1, 0), -1);
        Due.is("no such what", x.drum(0, 0, 1, 2), -1);
        Due.is("no such what", x.drum(0, 0, 1, -1), -1);
        Due.is("too many ahead of too far", x.drum(0, 5, 9, 0), -1);
        Due.is("too far", x.drum(0, 5, 0, 0), -3);
    }

    private static void nothingChanges() {
        MeatForDiamonds x = Due.valley("c0906;c3221;e0390;e2072;s06;s40;d1;");
        x.brings(0, 0, 0);
        x.bestCell(0);
        x.bestThrow();
        x.gain();
        x.bestHour(0, 0, 0);
        x.twoThrows(0);
        x.greedily(20, 0);
        x.drum(0, 0, 8, 0);
        int[] counts = {2, 2, 6, 1, 11, 2, 0, 16};
        for (int what = 0; what < counts.length; what++) {
            Due.is("count(" + what + ")", x.count(what), counts[what]);
        }
        Due.is("wary", x.eagle(0, 3) + x.eagle(1, 3), 0);
    }
}
