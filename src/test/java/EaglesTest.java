/** Promises 20 to 24: eagles, snakes, what is left. */
public final class EaglesTest {
    private EaglesTest() {
    }

    public static void main(String[] args) {
        lifting();
        waitingBelow();
        safety();
        noons();
        whatIsLeft();
        Due.end();
    }

    private static void lifting() {
        MeatForDiamonds x = Due.valley("e1043;e3090;s06;s08;s09;s39;s59;s70;");
        Due.is("weight", x.lifts(0, 0), 14);
        Due.is("sheep: one just so heavy, one lighter, bones", x.lifts(0, 1), 3);
        Due.is("weight", x.lifts(1, 0), 39);
        Due.is("all of them", x.lifts(1, 1), 6);
        Due.is("no such eagle", x.lifts(2, 0), -1);
        Due.is("no such eagle", x.lifts(-1, 0), -1);
        Due.is("no such what", x.lifts(0, 2), -1);
        Due.is("no such what", x.lifts(0, -1), -1);
        MeatForDiamonds wary = Due.valley("e1000;s70;d1;t00;t00;t00;t00;t00;");
        Due.is("wary", wary.eagle(0, 3), 5);
        Due.is("wary or not", wary.lifts(0, 0), 15);
        Due.is("wary or not", wary.lifts(0, 1), 1);
    }

    private static void waitingBelow() {
        MeatForDiamonds x = Due.valley("e1010;");
        Due.is("man(1)", x.man(1), 0);
        Due.is("man(11)", x.man(11), 0);
        Due.is("man(12)", x.man(12), 4);
        Due.is("man(13)", x.man(13), 8);
        Due.is("man(19)", x.man(19), 32);
        Due.is("man(20)", x.man(20), -4);
        Due.is("man(60)", x.man(60), -4);
        Due.is("man(0)", x.man(0), -1);
        Due.is("man(-1)", x.man(-1), -1);
        Due.is("man(61)", x.man(61), -1);
        Due.is("hour", x.count(2), 6);
        Due.is("hunger", x.count(7), 1);
        Due.tell(x, "e1500;");
        Due.is("some eagle", x.man(15), 0);
        Due.is("the sooner", x.man(17), 8);
        Due.is("from 0 to 9", x.man(24), 36);
        MeatForDiamonds wary = Due.valley("e1000;s70;d1;t00;t00;t00;t00;");
        Due.is("wary 4", wary.man(14), 0);
        wary.throwsOne(0, 0);
        Due.is("wary 5", wary.man(14), -4);
    }

    private static void safety() {
        MeatForDiamonds x = Due.valley("c0006;c1007;c7009;s06;s07;s70;");
        Due.is("6 is no more than 12 by 2", x.safe(0), 255 - 2 - 128);
        Due.is("13 by 2, cut", x.safe(1), 255 - 2 - 128);
        Due.is("bones", x.safe(2), 255 - 1 - 2 - 128);
        x.set(1, 10);
        Due.is("10 is not noon", x.safe(0), 125);
        x.set(1, 11);
        Due.is("noon", x.safe(0), 255);
        x.set(1, 13);
        Due.is("still noon", x.safe(2), 255);
        x.set(1, 14);
        Due.is("no more", x.safe(0), 125);
        Due.is("no such sheep", x.safe(3), -1);
        Due.is("no such sheep", x.safe(-1), -1);
    }

    private static void noons() {
        MeatForDiamonds x = new MeatForDiamonds();
        int[] due = {11, 10, 9, 8, 7, 6, 5, 4, 3, 2, 1, 0, 0, 0, 21, 20, 19, 18, 17, 16, 15, 14, 13, 12};
        Due.is("at first", x.noon(), 5);
        for (int hour = 0; hour < due.length; hour++) {
            x.set(1, hour);
            Due.is("noon at " + hour, x.noon(), due[hour]);
        }
    }

    private static void whatIsLeft() {
        MeatForDiamonds x = Due.valley("c0160;c3220;c5127;c6220;");
        Due.is("worth", x.left(0), 11 + 12 + 7 + 12);
        Due.is("cell", x.left(1), 3);
        x.lays(7, 2, 3, 0);
        Due.is("cell", x.left(1), 7);
        Due.is("no such what", x.left(2), -1);
        Due.is("no such what", x.left(-1), -1);
        Due.is("nothing", new MeatForDiamonds().left(0), 0);
        Due.is("the least", new MeatForDiamonds().left(1), 0);
    }
}
