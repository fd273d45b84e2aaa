/** The edges of promises 29 to 33: merchants, nests. */
public final class MerchantsEdgesTest {
    private static final int MIN = Integer.MIN_VALUE;
    private static final int MAX = Integer.MAX_VALUE;
    private static final String SIX = "s39;s39;s39;s39;s39;s39;";

    private MerchantsEdgesTest() {
    }

    public static void main(String[] args) {
        merchantsRanges();
        merchantsOfNoSheep();
        merchantsBothNone();
        merchantsTheFirstPair();
        merchantsTheLastSheep();
        merchantsNoFartherThanItFlies();
        merchantsTheOtherAsItIsThen();
        quarrelRanges();
        quarrelOfNoWorth();
        quarrelOfSeveralTheLeast();
        quarrelShared();
        forgedRanges();
        forgedRefusedInOrder();
        forgedNowhere();
        forgedAtTheFirstPlaceAndAtTheLast();
        judgeRanges();
        judgeRefusedInOrder();
        judgeNothingWrong();
        judgeAtTheFirstPlaceAndAtTheLast();
        judgeSkipsTheLeastOfTheSort();
        judgeSkipsNothingElse();
        seasonsRanges();
        seasonsOfNoSheep();
        seasonsOfTenThrows();
        seasonsEachFromNow();
        seasonsDrawACellItFliesTo();
        seasonsOfSeedsThatWrapAround();
        seasonsDrawASheepOfAllThereAre();
        seasonsDrawACellBehindItsSheep();
        Due.end();
    }

    /** Promise 29: "-1". */
    private static void merchantsRanges() {
        MeatForDiamonds x = Due.valley("c0300;c7300;e3090;s06;s69;");
        String before = Told.all(x);
        Due.range("merchants(c)", x::merchants, 0, 7, -1);
        Due.unchanged(x, before);
        MeatForDiamonds none = new MeatForDiamonds();
        Due.range("merchants(c), no SHEEP", none::merchants, 0, 7, -1);
    }

    private static void merchantsAre(String text, int c, int due) {
        MeatForDiamonds x = Due.valley(text);
        Due.is("merchants(" + c + "), " + text, x.merchants(c), due);
    }

    /** "(the number of SHEEP there are is none)". */
    private static void merchantsOfNoSheep() {
        for (int c = 0; c < 8; c++) {
            merchantsAre("c0900;e3090;", c, 0);
        }
    }

    private static void merchantsBothNone() {
        merchantsAre("e3090;s00;", 0, 11);
        merchantsAre("e3090;s00;s73;", 0, 22);
        merchantsAre("e3090;s39;" + SIX, 0, 77);
        merchantsAre("c0999;e3090;s09;", 0, 11);
        merchantsAre("c0900;s09;", 0, 11);
    }

    /** "the first pair (10 the first's and the other's)": a GAIN of 0 is as good as none. */
    private static void merchantsTheFirstPair() {
        merchantsAre("e3090;s60;", 0, 0);
        merchantsAre("e3090;s60;s60;", 0, 0);
        merchantsAre("e3090;s00;s60;s60;", 0, 11);
        merchantsAre("c0200;e3090;s00;", 0, 0);
        merchantsAre("c0100;e3090;s00;", 0, 1);
        merchantsAre("c0200;e3090;s40;s40;", 0, 0);
        merchantsAre("c0400;e3090;s00;s03;s03;", 0, 11);
        merchantsAre("c0900;e3090;s00;s06;s03;s06;", 0, 11);
        merchantsAre("c0110;e3090;s40;s63;", 0, 11);
        merchantsAre("c0200;e3090;s40;s63;", 0, 11);
    }

    private static void merchantsTheLastSheep() {
        merchantsAre("c7900;e3090;" + SIX + "s69;", 7, 66);
        merchantsAre("c7300;e3090;" + SIX + "s69;", 7, 66);
        merchantsAre("c7300;e3090;" + SIX + "s49;", 7, 77);
    }

    /** "a SHEEP that FLIES there". */
    private static void merchantsNoFartherThanItFlies() {
        String cells = "c2900;c3900;c4900;c5900;c7900;e3090;";
        merchantsAre(cells + "s06;s16;s69;", 2, 22);
        merchantsAre(cells + "s09;s26;", 3, 0);
        merchantsAre(cells + "s26;s09;", 4, 11);
        merchantsAre(cells + "s09;s59;", 4, 0);
        merchantsAre(cells + "s09;s29;", 5, 22);
        merchantsAre(cells + "s09;s49;", 7, 22);
        merchantsAre(cells + "s09;s46;s69;", 7, 22);
    }

    /** "then the other likewise, as it is then". */
    private static void merchantsTheOtherAsItIsThen() {
        merchantsAre("c0300;e3090;s06;s40;", 0, 2);
        merchantsAre("c0400;e3090;s06;s40;", 0, 1);
        merchantsAre("c0500;e3090;s06;s40;", 0, 0);
        merchantsAre("c0900;e0390;s06;s40;", 0, 1);
        merchantsAre("c0900;e0390;s06;s40;d1;", 0, 0);
        merchantsAre("c0900;e3000;s06;s69;d1;", 0, 11);
        // As it is now, whatever was thrown in mind or truly ahead of it.
        MeatForDiamonds y = Due.valley("c0300;e3090;s06;s40;");
        y.greedily(20, 0);
        Due.is("as it is now", y.merchants(0), 2);
        y.throwsOne(1, 0);
        Due.is("two BIG ones left", y.merchants(0), 2);
        y.throwsOne(1, 0);
        Due.is("one BIG one left", y.merchants(0), 12);
        // Eaten first, at 10, the other's throw at noon is not.
        MeatForDiamonds x = Due.valley("c0909;e3090;s63;s06;h04;");
        Due.is("thrown for nothing, then at noon", x.merchants(0), 1);
    }

    /** Promise 30: "-1". */
    private static void quarrelRanges() {
        MeatForDiamonds x = Due.valley("c0110;e3090;s03;t00;");
        String before = Told.all(x);
        Due.range("quarrel(what)", x::quarrel, 0, 2, -1);
        Due.unchanged(x, before);
    }

    private static void quarrelIs(String text, int apart, int nest, int shared) {
        MeatForDiamonds x = Due.valley(text);
        Due.is("apart, " + text, x.quarrel(0), apart);
        Due.is("the NEST, " + text, x.quarrel(1), nest);
        Due.is("SHARED, " + text, x.quarrel(2), shared);
    }

    private static void quarrelOfNoWorth() {
        MeatForDiamonds x = new MeatForDiamonds();
        Due.is("apart", x.quarrel(0), 0);
        Due.is("the NEST", x.quarrel(1), 0);
        Due.is("SHARED", x.quarrel(2), 0);
    }

    /** Nests with these worths, 0 to 9 each: each eagle carries one throw to its own. */
    private static MeatForDiamonds nestsOf(int... worth) {
        MeatForDiamonds x = Due.valley("e3090;e3081;e3072;e3063;s59;");
        for (int n = 0; n < 4; n++) {
            x.lays(0, worth[n] / 5, worth[n] % 5, 0);
            Due.is("carried", x.throwsOne(0, 0), worth[n]);
            Due.is("to NEST " + n, x.nest(n), worth[n]);
        }
        return x;
    }

    private static void quarrelOf(int apart, int nest, int shared, int... worth) {
        MeatForDiamonds x = nestsOf(worth);
        Due.is("apart", x.quarrel(0), apart);
        Due.is("the NEST", x.quarrel(1), nest);
        Due.is("SHARED", x.quarrel(2), shared);
    }

    /** "the most that two NESTS' WORTH is apart; the NEST with the most, of several the least". */
    private static void quarrelOfSeveralTheLeast() {
        quarrelOf(0, 0, 0, 7, 7, 7, 7);
        quarrelOf(7, 1, 5, 0, 7, 0, 0);
        quarrelOf(7, 1, 5, 0, 7, 0, 1);
        quarrelOf(9, 1, 8, 0, 9, 0, 9);
        quarrelOf(9, 3, 6, 3, 0, 0, 9);
        quarrelOf(2, 2, 1, 3, 2, 4, 4);
        // Each NEST alone with the most, and each alone with the least.
        for (int n = 0; n < 4; n++) {
            int[] rich = {1, 1, 1, 1};
            rich[n] = 8;
            quarrelOf(7, n, 5, rich);
            int[] poor = {7, 7, 7, 7};
            poor[n] = 0;
            quarrelOf(7, n == 0 ? 1 : 0, 5, poor);
        }
    }

    /** "how much must change NESTS so that no two differ by more than 1". */
    private static void quarrelShared() {
        quarrelOf(1, 0, 0, 1, 0, 0, 0);
        quarrelOf(1, 0, 0, 1, 1, 0, 0);
        quarrelOf(1, 0, 0, 1, 1, 1, 0);
        quarrelOf(2, 0, 1, 2, 0, 0, 0);
        quarrelOf(2, 0, 1, 2, 1, 0, 0);
        quarrelOf(2, 0, 1, 2, 1, 1, 0);
        quarrelOf(2, 0, 1, 2, 2, 1, 0);
        quarrelOf(2, 0, 1, 2, 2, 2, 0);
        quarrelOf(4, 2, 3, 0, 0, 4, 0);
        quarrelOf(5, 3, 3, 0, 0, 0, 5);
        quarrelOf(9, 0, 6, 9, 9, 9, 0);
        quarrelOf(9, 0, 6, 9, 0, 0, 0);
        quarrelOf(8, 0, 7, 8, 8, 1, 0);
        quarrelIs("c0100;e3093;s00;t00;", 5, 3, 3);
    }

    /** A valley with shelf 0 nothing, 1 a sheep, 2 bytes, 3 shorts, 4 ints. */
    private static MeatForDiamonds withShelves(String text) {
        MeatForDiamonds x = Due.valley(text);
        x.keep(1, 1, 0, 0);
        for (int sort = 0; sort < 3; sort++) {
            Due.row(x, 2 + sort, sort, 5, 1);
        }
        return x;
    }

    /** Promise 31: "-1, -11, -12". */
    private static void forgedRanges() {
        MeatForDiamonds x = withShelves("s00;s06;");
        x.row(7, 2, 0);
        String before = Told.all(x);
        Due.range("forged(s, 2)", s -> x.forged(s, 2), 0, 1, -1);
        Due.range("forged(0, d)", d -> x.forged(0, d), 0, 7, -1);
        Due.is("neither", x.forged(2, 8), -1);
        Due.unchanged(x, before);
        MeatForDiamonds seven = Due.valley(SIX + "s00;");
        seven.row(0, 0, 0);
        Due.range("forged(s, 0)", s -> seven.forged(s, 0), 0, 6, -1);
    }

    private static void forgedRefusedInOrder() {
        MeatForDiamonds x = withShelves("s00;");
        Due.is("nothing", x.forged(0, 0), -11);
        Due.is("a sheep", x.forged(0, 1), -12);
        Due.is("no such sheep ahead of nothing", x.forged(1, 0), -1);
        Due.is("no such sheep ahead of a sheep", x.forged(-1, 1), -1);
        Due.is("no SHEEP", withShelves("d0;").forged(0, 2), -1);
    }

    private static void forgedIs(MeatForDiamonds x, int s, int due, int... row) {
        Due.row(x, 5, 2, row);
        Due.is("forged(" + s + ", 5)", x.forged(s, 5), due);
    }

    /** "-4". */
    private static void forgedNowhere() {
        MeatForDiamonds x = withShelves("s00;s06;s70;");
        forgedIs(x, 0, -4);
        forgedIs(x, 0, -4, 0, 0, 0);
        forgedIs(x, 0, -4, 5, 5, 5, 5, 5, 5, 5, 5, 5, 1, 1, 1, 1, 1, 1, 1, 1, 1, 0, 0);
        forgedIs(x, 2, -4, 0, 0);
        for (int d = 2; d < 5; d++) {
            Due.is("each SORT", x.forged(0, d), -4);
        }
        x.row(6, 0, 100);
        Due.is("a hundred throws", x.forged(0, 6), -4);
    }

    /** "the first place at which no pair fits all up to it". */
    private static void forgedAtTheFirstPlaceAndAtTheLast() {
        MeatForDiamonds x = withShelves("s00;s06;s70;");
        forgedIs(x, 0, 0, 2, 5, 5);
        forgedIs(x, 0, 0, -1);
        forgedIs(x, 0, 0, MIN);
        forgedIs(x, 0, 1, 5, MAX, 2);
        forgedIs(x, 0, 1, 5, -4);
        forgedIs(x, 1, 1, 7, -4, -4);
        forgedIs(x, 0, 9, 5, 5, 5, 5, 5, 5, 5, 5, 5, 5, 5);
        forgedIs(x, 0, 9, 1, 1, 1, 1, 1, 1, 1, 1, 1, 1, 1);
        forgedIs(x, 0, 1, 0, 5);
        forgedIs(x, 1, 1, 11, 5);
        forgedIs(x, 2, 0, 1);
        x.row(6, 0, 100);
        x.put(6, 99, 1);
        Due.is("the last of a hundred", x.forged(0, 6), 99);
        Due.is("BONE, the last of a hundred", x.forged(2, 6), 99);
        x.put(6, 0, 2);
        Due.is("the first of a hundred", x.forged(0, 6), 0);
    }

    /** Promise 32: "-1, -3, -11, -12". */
    private static void judgeRanges() {
        MeatForDiamonds x = withShelves("c0345;e3090;s06;s69;");
        x.row(0, 0, 0);
        x.row(7, 2, 0);
        String before = Told.all(x);
        Due.range("judge(s, 0, 2)", s -> x.judge(s, 0, 2), 0, 1, -1);
        Due.range("judge(1, c, 2)", c -> x.judge(1, c, 2), 0, 7, -1);
        Due.range("judge(0, 0, d)", d -> x.judge(0, 0, d), 0, 7, -1);
        Due.is("all wrong", x.judge(2, 8, 8), -1);
        Due.unchanged(x, before);
    }

    private static void judgeRefusedInOrder() {
        MeatForDiamonds x = withShelves("s06;");
        Due.is("nothing", x.judge(0, 4, 0), -11);
        Due.is("a sheep", x.judge(0, 4, 1), -12);
        for (int d = 0; d < 5; d++) {
            Due.is("too far ahead of what the shelf holds", x.judge(0, 5, d), -3);
            Due.is("no such sheep ahead of it", x.judge(1, 5, d), -1);
            Due.is("no such cell ahead of it", x.judge(0, 8, d), -1);
        }
        Due.is("no such shelf ahead of too far", x.judge(0, 5, 8), -1);
        Due.is("no such shelf ahead of too far", x.judge(0, 5, -1), -1);
        Due.is("no SHEEP", withShelves("d0;").judge(0, 0, 2), -1);
    }

    private static void judgeIs(MeatForDiamonds x, int sort, int due, int... row) {
        Due.row(x, 5, sort, row);
        Due.is("judge, SORT " + sort, x.judge(0, 0, 5), due);
    }

    /** "-4". */
    private static void judgeNothingWrong() {
        MeatForDiamonds x = Due.valley("c0420;e3090;s06;");
        for (int sort = 0; sort < 3; sort++) {
            judgeIs(x, sort, -4);
            judgeIs(x, sort, -4, 15);
            judgeIs(x, sort, -4, 15, 7, 0, 0);
        }
        MeatForDiamonds none = Due.valley("s06;");
        none.row(0, 1, 100);
        Due.is("a hundred throws for nothing", none.judge(0, 0, 0), -4);
    }

    private static void judgeAtTheFirstPlaceAndAtTheLast() {
        MeatForDiamonds x = Due.valley("c0420;e3090;s06;");
        for (int sort = 0; sort < 3; sort++) {
            judgeIs(x, sort, 0, 14, 7);
            judgeIs(x, sort, 0, 16);
            judgeIs(x, sort, 1, 15, 15, 1);
            judgeIs(x, sort, 2, 15, 7, 1);
            judgeIs(x, sort, 3, 15, 7, 0, -1);
        }
        x.lays(0, 0, 0, 0);
        x.row(6, 0, 100);
        x.put(6, 99, 1);
        Due.is("the last of a hundred", x.judge(0, 0, 6), 99);
        x.put(6, 0, 1);
        Due.is("the first of a hundred", x.judge(0, 0, 6), 0);
    }

    /** "(the least number of the SORT is skipped)". */
    private static void judgeSkipsTheLeastOfTheSort() {
        int[] least = {-128, -32768, MIN};
        MeatForDiamonds x = Due.valley("c0420;e3090;s06;");
        for (int sort = 0; sort < 3; sort++) {
            judgeIs(x, sort, -4, least[sort]);
            judgeIs(x, sort, -4, least[sort], 7, 0);
            judgeIs(x, sort, -4, 15, least[sort], 0);
            judgeIs(x, sort, 2, 15, least[sort], 7);
            judgeIs(x, sort, 1, least[sort], 8);
            judgeIs(x, sort, -4, least[sort], least[sort], least[sort]);
        }
    }

    private static void judgeSkipsNothingElse() {
        MeatForDiamonds x = Due.valley("c0420;e3090;s06;");
        judgeIs(x, 0, 0, -127);
        judgeIs(x, 0, 0, 127);
        judgeIs(x, 1, 0, -128);
        judgeIs(x, 1, 0, -32767);
        judgeIs(x, 1, 0, 32767);
        judgeIs(x, 2, 0, -128);
        judgeIs(x, 2, 0, -32768);
        judgeIs(x, 2, 0, MIN + 1);
        judgeIs(x, 2, 0, MAX);
        judgeIs(x, 0, -4, 128);
        judgeIs(x, 1, -4, 32768);
    }

    /** Promise 33: "n seasons (1 .. 20)"; "-1, -3 no SHEEP". */
    private static void seasonsRanges() {
        MeatForDiamonds x = Due.valley("c0345;e3090;s06;s69;");
        String before = Told.all(x);
        Due.range("seasons(n, 1, 0)", n -> x.seasons(n, 1, 0), 1, 20, -1);
        Due.range("seasons(n, 1, 1)", n -> x.seasons(n, 1, 1), 1, 20, -1);
        Due.range("seasons(1, 1, what)", what -> x.seasons(1, 1, what), 0, 1, -1);
        Due.is("neither", x.seasons(0, 1, 2), -1);
        Due.unchanged(x, before);
    }

    private static void seasonsOfNoSheep() {
        MeatForDiamonds x = Due.valley("c0345;e3090;");
        Due.is("no SHEEP", x.seasons(1, 1, 0), -3);
        Due.is("no SHEEP", x.seasons(20, MIN, 1), -3);
        Due.outside("out of range ahead of no SHEEP", n -> x.seasons(n, 1, 0), 1, 20, -1);
        Due.outside("no such what ahead of no SHEEP", what -> x.seasons(1, 1, what), 0, 1, -1);
    }

    /** "n seasons .. of 10 THROWS". */
    private static void seasonsOfTenThrows() {
        MeatForDiamonds x = everywhere("s70;", 0, 9);
        x.set(1, 14);
        for (int n = 1; n <= 20; n++) {
            Due.is("all EATEN", x.seasons(n, 5, 1), 10 * n);
            Due.is("nothing is brought", x.seasons(n, 5, 0), 0);
        }
        x.set(1, 1);
        Due.is("the tenth at 10", x.seasons(1, 5, 1), 10);
        x.set(1, 2);
        Due.is("the tenth at 11", x.seasons(1, 5, 1), 9);
        MeatForDiamonds y = everywhere("e3090;s63;", 9, 0);
        Due.is("none EATEN", y.seasons(20, 5, 1), 0);
    }

    /** The same in all cells. */
    private static MeatForDiamonds everywhere(String text, int big, int snakes) {
        MeatForDiamonds x = Due.valley(text);
        for (int c = 0; c < 8; c++) {
            x.lays(c, big, 0, snakes);
        }
        return x;
    }

    /** "each from now": stones, HUNGER and HOUR. */
    private static void seasonsEachFromNow() {
        MeatForDiamonds x = everywhere("e3090;s63;", 9, 0);
        for (int n = 1; n <= 20; n++) {
            Due.is("ten throws, 5 each", x.seasons(n, 77, 0), 50 * n);
        }
        x.set(0, 1);
        Due.is("five drummed off a season", x.seasons(20, 77, 0), 25 * 20);
        MeatForDiamonds bones = everywhere("s70;", 0, 9);
        Due.is("noon comes every season", bones.seasons(20, 77, 1), 7 * 20);
    }

    /** "a CELL by a DRAW below (1 plus FLIES, FLIES being 7 at most)". */
    private static void seasonsDrawACellItFliesTo() {
        int[] flies = {4, 6, 3, 3, 6, 2, 7, 7};
        for (int kind = 0; kind < 8; kind++) {
            MeatForDiamonds x = Due.valley("s" + kind + "0;");
            x.set(1, 14);
            int weight = x.sheep(0, 2);
            for (int c = flies[kind] + 1; c < 8; c++) {
                x.lays(c, 0, 0, 9);
            }
            Due.is("none where it does not fly", x.seasons(20, kind, 1), 0);
            x.lays(flies[kind], 0, 0, 9);
            Due.isTrue("some at the last", weight >= 18 || x.seasons(20, kind, 1) > 0);
        }
    }

    /** "z becomes z times 1103515245 plus 12345 (an int); (z without its sign's bit over 65536, cut) modulo n". */
    private static void seasonsOfSeedsThatWrapAround() {
        int[] seeds = {0, 1, -1, 2, 12345, MIN, MAX, MIN + 1, 65535, 65536, -65536, 1103515245};
        for (int z : seeds) {
            MeatForDiamonds x = everywhere("s70;s60;", 0, 2);
            x.lays(5, 0, 0, 1);
            x.set(1, 14);
            for (int n = 1; n <= 20; n += 19) {
                Due.is("EATEN, seed " + z, x.seasons(n, z, 1), eatenBySeed(z, n));
            }
        }
    }

    /** Two sheep, BONE and STOLEN, of 2 and 3 WEIGHT: two SNAKES eat both everywhere but in cell 5. */
    private static int eatenBySeed(long z, int n) {
        int eaten = 0;
        for (int i = 0; i < 10 * n; i++) {
            z = (z * 1103515245L + 12345L) & 0xffffffffL;
            z = (z * 1103515245L + 12345L) & 0xffffffffL;
            long cell = (z & 0x7fffffffL) / 65536 % 8;
            eaten += cell == 5 ? 0 : 1;
        }
        return eaten;
    }

    /** "a SHEEP by a DRAW below as many as there are". */
    private static void seasonsDrawASheepOfAllThereAre() {
        int[] seeds = {0, 1, -1, 77, MIN, MAX};
        for (int size = 2; size <= 7; size++) {
            for (int bone = 0; bone < size; bone++) {
                StringBuilder flock = new StringBuilder("e3090;");
                for (int s = 0; s < size; s++) {
                    flock.append(s == bone ? "s70;" : "s69;");
                }
                MeatForDiamonds x = everywhere(flock.toString(), 0, 2);
                x.set(1, 14);
                for (int z : seeds) {
                    Due.is("only the BONE is EATEN, seed " + z, x.seasons(4, z, 1), drawnSheep(z, 40, size, bone));
                }
            }
        }
    }

    private static int drawnSheep(long z, int throwsOfAll, int size, int sheep) {
        int often = 0;
        for (int i = 0; i < throwsOfAll; i++) {
            z = (z * 1103515245L + 12345L) & 0xffffffffL;
            often += (z & 0x7fffffffL) / 65536 % size == sheep ? 1 : 0;
            z = (z * 1103515245L + 12345L) & 0xffffffffL;
        }
        return often;
    }

    /** The SHEEP is drawn first, and the CELL below 1 plus that one's FLIES. */
    private static void seasonsDrawACellBehindItsSheep() {
        int[] seeds = {0, 1, -1, 77, MIN, MAX};
        for (int c = 0; c < 8; c++) {
            MeatForDiamonds x = Due.valley("s00;s10;s20;s70;c" + c + "009;");
            x.set(1, 14);
            for (int z : seeds) {
                Due.is("EATEN in one cell alone, seed " + z, x.seasons(4, z, 1), drawnCell(z, 40, new int[] {4, 6, 3, 7}, c));
            }
        }
    }

    private static int drawnCell(long z, int throwsOfAll, int[] flies, int cell) {
        int often = 0;
        for (int i = 0; i < throwsOfAll; i++) {
            z = (z * 1103515245L + 12345L) & 0xffffffffL;
            int far = flies[(int) ((z & 0x7fffffffL) / 65536 % flies.length)];
            z = (z * 1103515245L + 12345L) & 0xffffffffL;
            often += (z & 0x7fffffffL) / 65536 % (1 + far) == cell ? 1 : 0;
        }
        return often;
    }
}
