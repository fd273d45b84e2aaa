/** All that an object tells of itself, as a text: two of them are compared to see what a call changed. */
final class Told {
    private Told() {
    }

    /** The valley and the shelves. Some 140 calls of the 512 that an object is good for. */
    static String all(MeatForDiamonds x) {
        return valley(x) + shelves(x);
    }

    /** All that THE IMAGE holds. */
    static String valley(MeatForDiamonds x) {
        StringBuilder all = new StringBuilder("counts");
        for (int what = 0; what < 8; what++) {
            all.append(' ').append(x.count(what));
        }
        for (int c = 0; c < 8; c++) {
            all.append("; cell");
            for (int what = 0; what < 3; what++) {
                all.append(' ').append(x.cellOf(c, what));
            }
        }
        for (int e = 0; e < x.count(0); e++) {
            all.append("; eagle");
            for (int what = 0; what < 4; what++) {
                all.append(' ').append(x.eagle(e, what));
            }
        }
        for (int s = 0; s < x.count(1); s++) {
            all.append("; sheep ").append(x.sheep(s, 0)).append(' ').append(x.sheep(s, 1));
        }
        for (int n = 0; n < 4; n++) {
            all.append("; nest ").append(x.nest(n));
        }
        return all.toString();
    }

    static String shelves(MeatForDiamonds x) {
        StringBuilder all = new StringBuilder();
        for (int d = 0; d < 8; d++) {
            all.append("; shelf ").append(x.cost(d)).append(' ').append(x.toss(d));
            for (int i = 0; Due.thrownBy(x, d, i) == 0; i++) {
                all.append(' ').append(x.element(d, i));
            }
        }
        return all.toString();
    }
}
