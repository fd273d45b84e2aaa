/** Promises 29 to 33: merchants, nests. */
public final class MerchantsTest {
    private MerchantsTest() {
    }

    public static void main(String[] args) {
        twoMerchants();
        quarrels();
        forgeries();
        judgements();
        judgementsRefused();
        seasonsBySeeds();
        seasonsRefused();
        Due.end();
    }

    private static void merchantsAre(String text, int c, int due) {
        MeatForDiamonds x = Due.valley(text);
        Due.is("merchants(" + c + "), " + text, x.merchants(c), due);
        Due.is("nothing is thrown", x.count(2), 6);
    }

    private static void twoMerchants() {
        merchantsAre("c0200;e3090;s03;s60;", 0, 1);
        merchantsAre("c0300;s00;", 0, 11);
        merchantsAre("c5900;e3090;s09;s60;", 5, 11);
        merchantsAre("c5900;e3090;s09;", 5, 11);
        merchantsAre("c0400;e3090;s03;", 0, 0);
        merchantsAre("c0200;e3090;s03;", 0, 1);
        merchantsAre("c4400;e3090;s03;", 4, 0);
        merchantsAre("c0300;e3090;s40;s60;s03;", 0, 20);
        merchantsAre("c0100;e3090;s00;s40;", 0, 12);
        merchantsAre("c0100;e3090;s00;", 0, 1);
        // Behind the first's throw the eagle is too full for the other's.
        merchantsAre("c0900;e0390;s06;", 0, 1);
        merchantsAre("c0900;e0390;s06;d1;", 0, 0);
        Due.is("no sheep", new MeatForDiamonds().merchants(7), 0);
        Due.is("no such cell", new MeatForDiamonds().merchants(8), -1);
        Due.is("no such cell", new MeatForDiamonds().merchants(-1), -1);
    }

    private static void quarrelIs(MeatForDiamonds x, int apart, int nest, int shared) {
        Due.is("apart", x.quarrel(0), apart);
        Due.is("nest", x.quarrel(1), nest);
        Due.is("shared", x.quarrel(2), shared);
    }

    private static void quarrels() {
        quarrelIs(new MeatForDiamonds(), 0, 0, 0);
        // Each throw goes to the eagle that is hungriest: 0, then 1, then 2, then 3.
        String eagles = "e3093;e3082;e3071;e3060;s09;";
        MeatForDiamonds x = Due.valley(eagles + "c0010;t00;");
        quarrelIs(x, 1, 3, 0);
        Due.tell(x, "c0020;t00;");
        quarrelIs(x, 2, 2, 1);
        Due.tell(x, "c0200;t00;");
        quarrelIs(x, 10, 1, 6);
        Due.tell(x, "c0210;t00;");
        Due.is("nests", x.nest(0) * 1000 + x.nest(1) * 100 + x.nest(2) * 10 + x.nest(3), 11000 + 1000 + 20 + 1);
        quarrelIs(x, 10, 0, 9);
        MeatForDiamonds even = Due.valley(eagles + "c0010;t00;c0010;t00;c0010;t00;c0010;t00;");
        quarrelIs(even, 0, 0, 0);
        MeatForDiamonds lone = Due.valley("c0120;e3092;s09;t00;");
        quarrelIs(lone, 7, 2, 5);
        Due.is("no such what", x.quarrel(3), -1);
        Due.is("no such what", x.quarrel(-1), -1);
    }

    private static void forgedIs(MeatForDiamonds x, int s, int due, int... row) {
        for (int sort = 0; sort < 3; sort++) {
            Due.row(x, 3, sort, row);
            Due.is("forged", x.forged(s, 3), due);
        }
    }

    private static void forgeries() {
        MeatForDiamonds x = Due.valley("s00;s06;s70;");
        forgedIs(x, 0, -4);
        forgedIs(x, 0, -4, 5, 1, 0);
        forgedIs(x, 0, 0, 2);
        forgedIs(x, 0, 2, 5, 1, 5);
        forgedIs(x, 0, 1, 0, 1, 7);
        forgedIs(x, 0, 9, 5, 5, 5, 5, 5, 5, 5, 5, 5, 5, 5);
        forgedIs(x, 1, 1, 15, 16);
        forgedIs(x, 1, -4, 15, 15, 15, 3, 3, 3);
        forgedIs(x, 1, 6, 15, 15, 15, 3, 3, 3, 1);
        forgedIs(x, 2, 1, 0, 1);
        x.keep(4, 1, 0, 0);
        Due.is("no such sheep", x.forged(3, 0), -1);
        Due.is("no such sheep", x.forged(-1, 3), -1);
        Due.is("no such shelf", x.forged(0, 8), -1);
        Due.is("no such shelf", x.forged(0, -1), -1);
        Due.is("nothing held", x.forged(0, 0), -11);
        Due.is("a sheep", x.forged(0, 4), -12);
    }

    private static void judgeIs(MeatForDiamonds x, int sort, int due, int... row) {
        Due.row(x, 3, sort, row);
        Due.is("judge", x.judge(0, 0, 3), due);
    }

    private static void judgements() {
        // Weight 12, sticks 3: the eagle lifts it, is too full, and is hungry enough five throws on.
        MeatForDiamonds x = Due.valley("c0720;e0390;s06;");
        for (int sort = 0; sort < 3; sort++) {
            judgeIs(x, sort, -4);
            judgeIs(x, sort, -4, 15, 0, 0, 0, 0, 15, 0, 0, 0, 0, 7, 0);
            judgeIs(x, sort, 0, 14, 0);
            judgeIs(x, sort, 1, 15, 15);
            judgeIs(x, sort, 5, 15, 0, 0, 0, 0, 0);
        }
        judgeIs(x, 0, -4, -128, 0, 0, 0, 0, 15);
        judgeIs(x, 0, -4, -128, -128);
        judgeIs(x, 1, -4, -32768, 0, 0, 0, 0, 15);
        judgeIs(x, 1, 0, -128, 0, 0, 0, 0, 15);
        judgeIs(x, 2, -4, Integer.MIN_VALUE, 0, 0, 0, 0, 15);
        judgeIs(x, 2, 0, -32768, 0, 0, 0, 0, 15);
        judgeIs(x, 2, 3, 15, 0, Integer.MIN_VALUE, 15);
        Due.row(x, 7, 0, 15, 1);
        Due.is("the last shelf", x.judge(0, 0, 7), 1);
        Due.row(x, 0, 0, 15, 1);
        Due.is("the first shelf", x.judge(0, 0, 0), 1);
        x.set(0, 1);
        judgeIs(x, 0, -4, 15, 15, 7, 0);
        Due.is("nothing is thrown", x.count(2), 6);
    }

    private static void judgementsRefused() {
        MeatForDiamonds x = Due.valley("s00;");
        x.keep(4, 1, 0, 0);
        Due.is("no such sheep", x.judge(1, 0, 3), -1);
        Due.is("no such sheep", x.judge(-1, 0, 3), -1);
        Due.is("no such cell", x.judge(0, 8, 3), -1);
        Due.is("no such shelf, too far", x.judge(0, 5, 8), -1);
        Due.is("no such shelf", x.judge(0, 0, -1), -1);
        Due.is("too far, nothing held", x.judge(0, 5, 3), -3);
        Due.is("nothing held", x.judge(0, 4, 3), -11);
        Due.is("a sheep", x.judge(0, 0, 4), -12);
    }

    private static void seasonsBySeeds() {
        // Bones into snakes: every throw is eaten but at noon, 11 to 13, of the hours 6 to 15.
        MeatForDiamonds bones = Due.valley(
            "c0009;c1009;c2009;c3009;c4009;c5009;c6009;c7009;s70;");
        Due.is("eaten", bones.seasons(3, 77, 1), 21);
        Due.is("brought", bones.seasons(3, 77, 0), 0);
        bones.set(1, 14);
        Due.is("eaten", bones.seasons(20, -5, 1), 200);
        // A double one flies to the cells 0 to 2 and takes all the stones of one at once.
        MeatForDiamonds x = Due.valley("c0100;c1010;c2200;e3090;s55;");
        Due.is("seed 1", x.seasons(1, 1, 0), oneSheepSeason(1, 1));
        Due.is("seed 0, three", x.seasons(3, 0, 0), oneSheepSeason(3, 0));
        Due.is("a seed below 0", x.seasons(20, -123456, 0), oneSheepSeason(20, -123456));
        Due.is("none eaten", x.seasons(20, 9, 1), 0);
        Due.is("nothing is thrown", x.count(2) * 100 + x.count(4), 603);
    }

    private static int oneSheepSeason(int n, int z) {
        int[] worth = {5, 1, 10};
        int brought = 0;
        for (int season = 0; season < n; season++) {
            boolean[] taken = new boolean[3];
            for (int i = 0; i < 10; i++) {
                z = z * 1103515245 + 12345;
                z = z * 1103515245 + 12345;
                int c = (z & 0x7fffffff) / 65536 % 3;
                brought += taken[c] ? 0 : worth[c];
                taken[c] = true;
            }
        }
        return brought;
    }

    private static void seasonsRefused() {
        MeatForDiamonds none = new MeatForDiamonds();
        Due.is("no sheep", none.seasons(1, 1, 0), -3);
        Due.is("too many comes first", none.seasons(21, 1, 0), -1);
        Due.is("no such what comes first", none.seasons(1, 1, 2), -1);
        MeatForDiamonds x = Due.valley("s00;");
        Due.is("too few", x.seasons(0, 1, 0), -1);
        Due.is("too many", x.seasons(21, 1, 0), -1);
        Due.is("no such what", x.seasons(1, 1, 2), -1);
        Due.is("no such what", x.seasons(1, 1, -1), -1);
    }
}
