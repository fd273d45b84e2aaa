/** Promises 34 to 36: the image, what is told. */
public final class ImageTest {
    private ImageTest() {
    }

    public static void main(String[] args) {
        images();
        secondImage();
        counts();
        Due.end();
    }

    private static void images() {
        MeatForDiamonds x = Due.valley("c0321;c7105;e0942;e2031;s06;d1;t00;h05;");
        Due.is("none yet", x.restore(), -3);
        String then = told(x);
        Due.is("image()", x.image(), 12);
        x.keep(0, 1, 3, 4);
        Due.tell(x, "c0999;c1111;e3093;s27;d0;t00;t13;h33;");
        Due.isTrue("all is otherwise", !told(x).equals(then));
        Due.is("restore()", x.restore(), 12);
        Due.isTrue("all is as it was", told(x).equals(then));
        Due.is("shelves stay", x.cost(0), 14);
        Due.is("a new sheep has the next number", x.buys(0), 1);
        Due.is("waits", x.waits(1), 13);
        Due.is("restored again", x.restore(), 12);
        Due.isTrue("all is as it was", told(x).equals(then));
    }

    private static void secondImage() {
        MeatForDiamonds x = new MeatForDiamonds();
        Due.is("of an empty valley", x.image(), 6);
        Due.tell(x, "c0999;e3093;s27;h03;");
        Due.is("a second", x.image(), 9);
        Due.tell(x, "h01;s00;");
        Due.is("the second is restored", x.restore(), 9);
        Due.is("sheep", x.count(1), 1);
    }

    private static String told(MeatForDiamonds x) {
        StringBuilder all = new StringBuilder();
        for (int what = 0; what < 8; what++) {
            all.append(x.count(what)).append(' ');
        }
        for (int i = 0; i < 8; i++) {
            for (int what = 0; what < 6; what++) {
                all.append(x.cellOf(i, what)).append(x.eagle(i, what)).append(x.sheep(i, what)).append(' ');
            }
            all.append(x.nest(i)).append(' ');
        }
        return all.toString();
    }

    private static void counts() {
        MeatForDiamonds x = Due.valley("c0320;c7145;e3032;e2051;s06;s07;s08;d1;t00;");
        int[] due = {2, 3, 7, 1, 1, 6, 15, 10};
        for (int what = 0; what < due.length; what++) {
            Due.is("count(" + what + ")", x.count(what), due[what]);
        }
        Due.is("count(8)", x.count(8), -1);
        Due.is("count(-1)", x.count(-1), -1);
    }
}
