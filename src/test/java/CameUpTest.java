/** Promises 25 to 28: what came up. */
public final class CameUpTest {
    private CameUpTest() {
    }

    public static void main(String[] args) {
        whatIsStillThere();
        stillRefused();
        tellingMost();
        tellingMostRefused();
        whoseThrow();
        means();
        Due.end();
    }

    private static void stillIs(MeatForDiamonds x, int s, int pairs, int least, int left, int... row) {
        for (int sort = 0; sort < 3; sort++) {
            Due.row(x, 1, sort, row);
            Due.is("pairs", x.still(s, 1, 0), pairs);
            Due.is("least", x.still(s, 1, 1), least);
            Due.is("left", x.still(s, 1, 2), left);
        }
    }

    private static void whatIsStillThere() {
        // Sticks 1, 3 and 0; no eagle and snakes at the cells: told throws do not ask for them.
        MeatForDiamonds x = Due.valley("c0009;s00;s06;s70;");
        stillIs(x, 0, 100, 0, 0);
        stillIs(x, 0, 90, 10, 0, 5);
        stillIs(x, 0, 9, 1, 0, 1);
        stillIs(x, 0, 1, 0, 0, 0);
        stillIs(x, 0, 9, 21, 0, 5, 5, 1);
        stillIs(x, 0, 1, 21, 0, 5, 5, 1, 0, 0);
        stillIs(x, 0, 0, -4, -4, 1, 5);
        stillIs(x, 0, 0, -4, -4, 2);
        stillIs(x, 0, 0, -4, -4, -128);
        stillIs(x, 0, 10, 90, 0, 5, 5, 5, 5, 5, 5, 5, 5, 5);
        stillIs(x, 0, 0, -4, -4, 5, 5, 5, 5, 5, 5, 5, 5, 5, 5);
        stillIs(x, 1, 8, 42, 0, 15, 7);
        stillIs(x, 1, 70, 30, 0, 15);
        stillIs(x, 1, 1, 20, 0, 10);
        stillIs(x, 1, 9, 21, 0, 11);
        stillIs(x, 1, 0, -4, -4, 4);
        stillIs(x, 2, 100, 0, 0, 0, 0);
        stillIs(x, 2, 0, -4, -4, 0, 1);
    }

    private static void stillRefused() {
        MeatForDiamonds x = Due.valley("s00;");
        Due.row(x, 1, 0, 5);
        x.keep(2, 1, 0, 0);
        Due.is("no such sheep", x.still(1, 1, 0), -1);
        Due.is("no such sheep, nothing held", x.still(-1, 0, 0), -1);
        Due.is("no such shelf", x.still(0, 8, 0), -1);
        Due.is("no such shelf", x.still(0, -1, 0), -1);
        Due.is("no such what", x.still(0, 1, 3), -1);
        Due.is("no such what", x.still(0, 0, -1), -1);
        Due.is("nothing held", x.still(0, 0, 0), -11);
        Due.is("a sheep", x.still(0, 2, 0), -12);
    }

    private static void tellsMostIs(MeatForDiamonds x, int s, int best, int parts, int... row) {
        Due.row(x, 1, 2, row);
        Due.is("sheep", x.tellsMost(s, 1, 0), best);
        Due.is("how many", x.tellsMost(s, 1, 1), parts);
    }

    private static void tellingMost() {
        MeatForDiamonds x = Due.valley("s70;s00;s03;s06;s06;");
        tellsMostIs(x, 0, 3, 10);
        tellsMostIs(x, 0, 3, 10, 0);
        tellsMostIs(x, 1, 1, 2, 5, 5, 5, 5, 5, 5, 5, 5, 5, 1, 1, 1, 1, 1, 1, 1, 1);
        tellsMostIs(x, 1, 0, 1, 0);
        tellsMostIs(x, 3, 3, 4, 15, 7);
        tellsMostIs(x, 1, -4, -4, 3);
        MeatForDiamonds bones = Due.valley("s70;s79;");
        tellsMostIs(bones, 1, 0, 1);
    }

    private static void tellingMostRefused() {
        MeatForDiamonds x = Due.valley("s00;");
        Due.row(x, 1, 0, 5);
        x.keep(2, 1, 0, 0);
        Due.is("no such sheep", x.tellsMost(1, 1, 0), -1);
        Due.is("no such sheep, nothing held", x.tellsMost(-1, 0, 0), -1);
        Due.is("no such shelf", x.tellsMost(0, 8, 0), -1);
        Due.is("no such what", x.tellsMost(0, 1, 2), -1);
        Due.is("no such what", x.tellsMost(0, 0, -1), -1);
        Due.is("nothing held", x.tellsMost(0, 0, 0), -11);
        Due.is("a sheep", x.tellsMost(0, 2, 0), -12);
    }

    private static void whoseThrow() {
        MeatForDiamonds x = Due.valley("c0310;c1205;c6110;e1591;s00;s06;s39;s10;s43;s43;s06;");
        Due.is("10: the two painted ones", x.whose(0, 10), 16 + 32);
        Due.is("15", x.whose(0, 15), 2 + 64);
        Due.is("0: too heavy, or none sticks", x.whose(0, 0), 4 + 8);
        Due.is("5", x.whose(0, 5), 1);
        Due.is("eaten ones bring 0", x.whose(1, 0), 1 + 4 + 8 + 16 + 32);
        Due.is("those that fly there", x.whose(6, 6), 16 + 32);
        Due.is("those that fly there", x.whose(6, 0), 8);
        Due.is("none flies there", x.whose(7, 0), 0);
        Due.is("none brings that", x.whose(0, 1000), 0);
        Due.is("below 0", x.whose(0, -1), -1);
        Due.is("no such cell", x.whose(8, 0), -1);
        Due.is("no such cell", x.whose(-1, 0), -1);
    }

    private static void meanIs(MeatForDiamonds x, int s, long above, long below) {
        Due.is("above", x.mean(s, 0), above);
        Due.is("below", x.mean(s, 1), below);
    }

    private static void means() {
        MeatForDiamonds x = Due.valley("c0300;c1010;c2300;c3020;c7500;e3090;s06;s29;s59;s69;s00;s59;s70;");
        meanIs(x, 0, 33, 5);
        meanIs(x, 1, 33, 4);
        meanIs(x, 2, 31, 3);
        meanIs(x, 3, 6, 1);
        meanIs(x, 4, 12, 5);
        meanIs(x, 6, 0, 1);
        x.lays(1, 0, 3, 0);
        meanIs(x, 1, 35, 4);
        meanIs(x, 2, 11, 1);
        meanIs(x, 3, 25, 4);
        meanIs(x, 0, 7, 1);
        x.lays(1, 2, 0, 9);
        meanIs(x, 4, 11, 5);
        meanIs(Due.valley("c0900;s00;"), 0, 0, 1);
        Due.is("no such sheep", x.mean(7, 0), 1000000001L);
        Due.is("no such sheep", x.mean(-1, 0), 1000000001L);
        Due.is("no such part", x.mean(0, 2), 1000000001L);
        Due.is("no such part", x.mean(0, -1), 1000000001L);
    }
}
