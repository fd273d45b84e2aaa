/** Promises 1 to 11: the valley as told. */
public final class ValleyTest {
    private ValleyTest() {
    }

    public static void main(String[] args) {
        newObject();
        textsWithoutFault();
        textsStepByStep();
        faultsOfKindOne();
        faultsOfKindTwo();
        valleyRefused();
        cells();
        eagles();
        kindsOfSheep();
        nests();
        buying();
        laying();
        setting();
        throwing();
        throwingTooHeavyOrWary();
        drumming();
        throwRefused();
        waiting();
        Due.end();
    }

    private static void newObject() {
        MeatForDiamonds x = new MeatForDiamonds();
        int[] counts = {0, 0, 6, 0, 0, 0, 0, 0};
        for (int what = 0; what < counts.length; what++) {
            Due.is("count(" + what + ")", x.count(what), counts[what]);
        }
        for (int c = 0; c < 8; c++) {
            for (int what = 0; what < 3; what++) {
                Due.is("cellOf", x.cellOf(c, what), 0);
            }
        }
        for (int d = 0; d < 8; d++) {
            Due.is("cost of nothing", x.cost(d), -11);
        }
        Due.is("eagle(0, 0)", x.eagle(0, 0), -1);
        Due.is("sheep(0, 0)", x.sheep(0, 0), -1);
        Due.is("restore()", x.restore(), -3);
    }

    private static void textsWithoutFault() {
        MeatForDiamonds x = new MeatForDiamonds();
        Due.is("valley", Due.tell(x, "c1234;e3091;s29;d1;h60;t00;"), 6);
        Due.is("big", x.cellOf(1, 0), 2);
        Due.is("small", x.cellOf(1, 1), 3);
        Due.is("snakes", x.cellOf(1, 2), 4);
        Due.is("drums", x.count(3), 1);
        Due.is("hour: 6 and 60 and a throw's", x.count(2), (6 + 60 + 1) % 24);
        Due.is("sheep", x.sheep(0, 0) * 10 + x.sheep(0, 1), 29);
        Due.is("wary", x.eagle(0, 3), 1);
        Due.is("a second text adds", Due.tell(x, "e0100;s00;c1000;"), 3);
        Due.is("eagles", x.count(0), 2);
        Due.is("sheep", x.count(1), 2);
        Due.is("the cell is laid anew", x.cellOf(1, 0), 0);
        Due.is("the least numbers", Due.tell(x, "e0100;h01;d0;c0000;t10;"), 5);
        Due.is("a text that fills its row", Due.tell(x, "h01;".repeat(25)), 25);
        Due.row(x, 2, 0, 'd', '1', ';');
        Due.is("valley(2)", x.valley(2), 1);
        Due.is("the row stays", x.element(2, 0), 'd');
        Due.is("and can be told again", x.valley(2), 1);
    }

    private static void textsStepByStep() {
        MeatForDiamonds x = Due.valley("s00;");
        Due.is("a sheep and a throw of it", Due.tell(x, "s10;t16;"), 2);
        Due.is("a later fault", Due.tell(x, "c1999;e1011;s00;h05;d1;t30;"), -2023);
        Due.is("nothing of it came", x.count(0) + x.count(3) + x.count(4), 0);
        Due.is("nor the sheep", x.count(1), 2);
        Due.is("nor the hours", x.count(2), 7);
        Due.is("the text's own sheep is there", Due.tell(x, "s60;t27;"), 2);
    }

    private static void faultsOfKindOne() {
        MeatForDiamonds x = new MeatForDiamonds();
        String[] texts = {"", "x", ";", "c", "c1", "c123", "c1234", "c1234x", "c12345;", "c12;", "d", "d1", "d12;",
            "dx;", "d;", "e123;", "e1234", "e12345;", "s1;", "s111;", "h1;", "h123;", "t1;", "t111;", "d1;;", "d1; d1;",
            "d1;d", "d1;d1", "D1;", "d9;x", "c9000;d1", "d1;\0"};
        int[] places = {0, 0, 0, 1, 2, 4, 5, 5, 5, 3, 1, 2, 2,
            1, 1, 4, 5, 5, 2, 3, 2, 3, 2, 3, 3, 3,
            4, 5, 0, 3, 8, 3};
        for (int i = 0; i < texts.length; i++) {
            Due.is("text " + texts[i], Due.tell(x, texts[i]), -1000 - places[i]);
        }
        Due.row(x, 0, 0, 'd', '1' + 256, ';');
        Due.is("only the lowest bits are kept", x.valley(0), 1);
        Due.row(x, 0, 0, 'd', -'1', ';');
        Due.is("a byte below 0", x.valley(0), -1001);
        Due.is("a byte below a digit", Due.tell(x, "d/;"), -1001);
        Due.is("a byte above a digit", Due.tell(x, "d:;"), -1001);
    }

    private static void faultsOfKindTwo() {
        String[] texts = {"c8000;", "c9000;", "e0000;", "e3100;", "e9900;", "e1004;", "e1009;", "s80;", "s90;", "d2;", "d9;",
            "h00;", "h61;", "h99;", "t00;", "s00;t10;", "s00;t05;", "s00;t08;", "s60;t08;", "s00;t04;t05;"};
        int[] places = {0, 0, 0, 0, 0, 0, 0, 0, 0, 0, 0,
            0, 0, 0, 0, 4, 4, 4, 4, 8};
        for (int i = 0; i < texts.length; i++) {
            MeatForDiamonds x = new MeatForDiamonds();
            Due.is("text " + texts[i], Due.tell(x, texts[i]), -2000 - places[i]);
            Due.is("no sheep came", x.count(1), 0);
        }
        MeatForDiamonds x = new MeatForDiamonds();
        Due.is("room for 4 eagles", Due.tell(x, "e0100;e0100;e0100;e0100;"), 4);
        Due.is("and no more", Due.tell(x, "d1;e0100;"), -2003);
        Due.is("room for 7 sheep", Due.tell(x, "s00;s00;s00;s00;s00;s00;s00;"), 7);
        Due.is("and no more", Due.tell(x, "d1;s00;"), -2003);
        Due.is("drums stayed", x.count(3), 0);
    }

    private static void valleyRefused() {
        MeatForDiamonds x = new MeatForDiamonds();
        Due.is("no such shelf", x.valley(-1), -1);
        Due.is("no such shelf", x.valley(8), -1);
        Due.is("nothing", x.valley(0), -11);
        x.keep(0, 1, 0, 0);
        Due.is("a sheep", x.valley(0), -12);
        x.row(0, 1, 1);
        Due.is("shorts", x.valley(0), -12);
        x.row(0, 2, 1);
        Due.is("ints", x.valley(0), -12);
    }

    private static void cells() {
        MeatForDiamonds x = Due.valley("c0123;c7987;");
        Due.is("cellOf(0, 0)", x.cellOf(0, 0), 1);
        Due.is("cellOf(0, 1)", x.cellOf(0, 1), 2);
        Due.is("cellOf(0, 2)", x.cellOf(0, 2), 3);
        Due.is("cellOf(7, 0)", x.cellOf(7, 0), 9);
        Due.is("cellOf(7, 1)", x.cellOf(7, 1), 8);
        Due.is("cellOf(7, 2)", x.cellOf(7, 2), 7);
        Due.is("cellOf(8, 0)", x.cellOf(8, 0), -1);
        Due.is("cellOf(-1, 0)", x.cellOf(-1, 0), -1);
        Due.is("cellOf(0, 3)", x.cellOf(0, 3), -1);
        Due.is("cellOf(0, -1)", x.cellOf(0, -1), -1);
    }

    private static void eagles() {
        MeatForDiamonds x = Due.valley("e0793;e3002;");
        Due.is("eagle(0, 0)", x.eagle(0, 0), 7);
        Due.is("eagle(0, 1)", x.eagle(0, 1), 9);
        Due.is("eagle(0, 2)", x.eagle(0, 2), 3);
        Due.is("eagle(0, 3)", x.eagle(0, 3), 0);
        Due.is("eagle(1, 0)", x.eagle(1, 0), 30);
        Due.is("eagle(1, 2)", x.eagle(1, 2), 2);
        Due.is("eagle(2, 0)", x.eagle(2, 0), -1);
        Due.is("eagle(-1, 0)", x.eagle(-1, 0), -1);
        Due.is("eagle(0, 4)", x.eagle(0, 4), -1);
        Due.is("eagle(0, -1)", x.eagle(0, -1), -1);
    }

    private static void kindsOfSheep() {
        int[][] plain = {
            {6, 1, 4, 5}, {3, 0, 6, 3}, {10, 3, 3, 5}, {18, 3, 3, 25}, {3, 1, 6, 4}, {20, 6, 2, 10}, {3, 0, 7, 0}, {2, 0, 7, 1}};
        int[][] great = {
            {15, 4, 4, 5}, {12, 3, 6, 3}, {19, 6, 3, 14}, {27, 6, 3, 34}, {12, 4, 6, 4}, {38, 12, 2, 28}, {12, 3, 7, 0},
            {2, 0, 7, 1}};
        int[][] five = {
            {11, 2, 4, 5}, {8, 1, 6, 3}, {15, 4, 3, 10}, {23, 4, 3, 30}, {8, 2, 6, 4}, {30, 8, 2, 20}, {8, 1, 7, 0}, {2, 0, 7, 1}};
        for (int kind = 0; kind < 8; kind++) {
            sheepIs(kind, 0, plain[kind]);
            sheepIs(kind, 5, five[kind]);
            sheepIs(kind, 9, great[kind]);
        }
        MeatForDiamonds x = Due.valley("s12;");
        Due.is("sheep(1, 0)", x.sheep(1, 0), -1);
        Due.is("sheep(-1, 0)", x.sheep(-1, 0), -1);
        Due.is("sheep(0, 6)", x.sheep(0, 6), -1);
        Due.is("sheep(0, -1)", x.sheep(0, -1), -1);
    }

    private static void sheepIs(int kind, int figure, int[] numbers) {
        MeatForDiamonds x = Due.valley("s" + kind + figure + ";");
        Due.is("kind", x.sheep(0, 0), kind);
        Due.is("figure", x.sheep(0, 1), figure);
        for (int i = 0; i < numbers.length; i++) {
            Due.is("sheep " + kind + figure + ", what " + (i + 2), x.sheep(0, i + 2), numbers[i]);
        }
    }

    private static void nests() {
        MeatForDiamonds x = Due.valley("c0220;e3091;s03;t00;");
        Due.is("nest(1)", x.nest(1), 10);
        Due.is("nest(0)", x.nest(0), 0);
        Due.is("nest(3)", x.nest(3), 0);
        Due.is("nest(4)", x.nest(4), -1);
        Due.is("nest(-1)", x.nest(-1), -1);
    }

    private static void buying() {
        MeatForDiamonds x = new MeatForDiamonds();
        Due.is("no such shelf", x.buys(8), -1);
        Due.is("no such shelf", x.buys(-1), -1);
        Due.is("nothing", x.buys(0), -11);
        x.row(0, 0, 1);
        Due.is("a row", x.buys(0), -12);
        for (int s = 0; s < 7; s++) {
            x.keep(1, 1, s, 9 - s);
            Due.is("buys(1)", x.buys(1), s);
            Due.is("it stays on its shelf", x.toss(1) != -11 ? 1 : 0, 1);
        }
        Due.is("no room", x.buys(1), -2);
        Due.is("nothing, room or not", x.buys(2), -11);
        Due.is("a row, room or not", x.buys(0), -12);
        for (int s = 0; s < 7; s++) {
            Due.is("kind", x.sheep(s, 0), s);
            Due.is("figure", x.sheep(s, 1), 9 - s);
        }
        Due.is("seven", x.count(1), 7);
    }

    private static void laying() {
        MeatForDiamonds x = new MeatForDiamonds();
        Due.is("the most", x.lays(7, 9, 9, 9), 0);
        Due.is("the most", x.cellOf(7, 0) * 100 + x.cellOf(7, 1) * 10 + x.cellOf(7, 2), 999);
        Due.is("lays", x.lays(3, 9, 8, 7), 0);
        Due.is("lays again", x.lays(3, 1, 2, 3), 9);
        Due.is("big", x.cellOf(3, 0), 1);
        Due.is("small", x.cellOf(3, 1), 2);
        Due.is("snakes", x.cellOf(3, 2), 3);
        int[][] wrong = {{8, 0, 0, 0}, {-1, 0, 0, 0}, {3, 10, 0, 0}, {3, -1, 0, 0}, {3, 0, 10, 0}, {3, 0, -1, 0},
            {3, 0, 0, 10}, {3, 0, 0, -1}};
        for (int[] w : wrong) {
            Due.is("lays out of range", x.lays(w[0], w[1], w[2], w[3]), -1);
        }
        Due.is("nothing changed", x.lays(3, 0, 0, 0), 1);
    }

    private static void setting() {
        MeatForDiamonds x = new MeatForDiamonds();
        Due.is("set(0, 1)", x.set(0, 1), 0);
        Due.is("set(0, 1)", x.set(0, 1), 1);
        Due.is("set(0, 0)", x.set(0, 0), 1);
        Due.is("set(1, 23)", x.set(1, 23), 6);
        Due.is("set(1, 0)", x.set(1, 0), 23);
        int[][] wrong = {{0, 2}, {0, -1}, {1, 24}, {1, -1}, {2, 0}, {-1, 0}};
        for (int[] w : wrong) {
            Due.is("set(" + w[0] + ", " + w[1] + ")", x.set(w[0], w[1]), -1);
        }
        Due.is("hour", x.count(2), 0);
        Due.is("drums", x.count(3), 0);
    }

    private static void throwing() {
        MeatForDiamonds x = Due.valley("c0239;e1042;e2043;e3030;e0370;s06;");
        Due.is("eaten", x.throwsOne(0, 0), 0);
        Due.is("stones stay", x.cellOf(0, 0) * 10 + x.cellOf(0, 1), 23);
        Due.is("all hungrier", x.count(7), 5 + 5 + 4 + 8);
        Due.is("hour", x.count(2), 7);
        x.set(1, 11);
        Due.is("asleep: the hungrier of those who can, of several the least", x.throwsOne(0, 0), 11);
        Due.is("nest", x.nest(2), 11);
        Due.is("fed: 12 by 3", x.eagle(0, 1), 1);
        Due.is("the others", x.eagle(1, 1) * 100 + x.eagle(2, 1) * 10 + x.eagle(3, 1), 659);
        Due.is("stones", x.cellOf(0, 0) * 10 + x.cellOf(0, 1), 2);
        x.set(1, 23);
        x.lays(0, 0, 2, 6);
        Due.is("six snakes are no more than 12 by 2; the weak one can lift now", x.throwsOne(0, 0), 2);
        Due.is("the weak one: 3 and 9 less 4", x.eagle(3, 1), 5);
        Due.is("to nest 0", x.nest(0), 2);
        Due.is("hour behind 23", x.count(2), 0);
        x.throwsOne(0, 1);
        Due.is("hunger 0 at least", Due.tell(x, "t00;t00;t00;"), 3);
        int least = 9;
        for (int e = 0; e < 4; e++) {
            least = Math.min(least, x.eagle(e, 1));
        }
        Due.isTrue("hunger 0 .. 9", least >= 0);
        MeatForDiamonds y = Due.valley("e3010;s09;t00;");
        Due.is("hunger 1 less 5 is 0", y.eagle(0, 1), 0);
        Due.is("wary 0 at least", y.eagle(0, 3), 0);
    }

    private static void throwingTooHeavyOrWary() {
        MeatForDiamonds x = Due.valley("c0110;e0750;s07;s06;");
        Due.is("13 is too heavy", x.throwsOne(0, 0), 0);
        Due.is("a hungrier one can", x.throwsOne(0, 0), 6);
        Due.is("no snakes, thirteen hours: the first one stays", x.count(4), 0);
        MeatForDiamonds y = Due.valley("c0990;e3090;s70;d1;t00;t00;t00;t00;");
        Due.is("wary 4", y.eagle(0, 3), 4);
        y.keep(0, 1, 0, 0);
        y.buys(0);
        Due.is("wary below 5 it comes", y.throwsOne(1, 0), 5);
        Due.is("wary 5 it does not", y.throwsOne(1, 0), 0);
        Due.is("wary stays", y.eagle(0, 3), 5);
        Due.is("stones stay", y.cellOf(0, 0), 8);
        MeatForDiamonds z = Due.valley("c0110;e3090;s70;s00;d1;t00;t00;d0;t00;");
        Due.is("fed: less wary", z.eagle(0, 3), 1);
        Due.is("bones: 2 by 3 is 0 less", z.eagle(0, 1), 9);
    }

    private static void drumming() {
        MeatForDiamonds x = Due.valley("c0990;e1240;e1231;s00;d1;");
        Due.is("a throw with drums", x.throwsOne(0, 0), 5);
        Due.is("its hunger", x.eagle(0, 1), 5);
        Due.is("its wariness", x.eagle(0, 3), 1);
        Due.is("the other's hunger", x.eagle(1, 1), 4);
        Due.is("the other's wariness", x.eagle(1, 3), 0);
        x.waits(60);
        x.throwsOne(0, 0);
        Due.is("hunger 9 at most", x.eagle(0, 1), 9);
        Due.is("the other's too", x.eagle(1, 1), 9);
    }

    private static void throwRefused() {
        MeatForDiamonds x = Due.valley("s00;s60;");
        Due.is("no such sheep", x.throwsOne(2, 0), -1);
        Due.is("no such sheep", x.throwsOne(-1, 0), -1);
        Due.is("no such cell", x.throwsOne(1, 8), -1);
        Due.is("no such cell", x.throwsOne(0, 8), -1);
        Due.is("no such cell", x.throwsOne(0, -1), -1);
        Due.is("too far", x.throwsOne(0, 5), -3);
        Due.is("nothing changed", x.count(2), 6);
        Due.is("far enough", x.throwsOne(0, 4), 0);
        Due.is("far enough", x.throwsOne(1, 7), 0);
        Due.is("two hours", x.count(2), 8);
    }

    private static void waiting() {
        MeatForDiamonds x = Due.valley("e1000;e1070;");
        Due.is("waits(3)", x.waits(3), 9);
        Due.is("hunger", x.eagle(0, 1), 0);
        Due.is("waits(11)", x.waits(11), 20);
        Due.is("hunger", x.eagle(0, 1), 2);
        Due.is("9 at most", x.eagle(1, 1), 9);
        Due.is("waits(4)", x.waits(4), 0);
        Due.is("waits(60)", x.waits(60), 12);
        Due.is("9 at most", x.eagle(0, 1), 9);
        Due.is("waits(1)", x.waits(1), 13);
        Due.is("waits(0)", x.waits(0), -1);
        Due.is("waits(-1)", x.waits(-1), -1);
        Due.is("waits(61)", x.waits(61), -1);
        Due.is("hour", x.count(2), 13);
    }
}
