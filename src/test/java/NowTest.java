import java.util.ArrayList;
import java.util.List;
import java.util.function.ToLongFunction;

/**
 * "Throws in mind" are tried on the valley as it is now: two objects with the same valley give the same answers,
 * whatever one of them was told, restored or thought of ahead.
 */
public final class NowTest {
    /** A call and how it is written. */
    private record Call(String told, ToLongFunction<MeatForDiamonds> made) {
    }

    private static final List<Call> CALLS = new ArrayList<>();

    private NowTest() {
    }

    public static void main(String[] args) {
        callsOfSheepAndCells();
        callsByTheRow();
        otherCalls();
        answersStay("", "");
        answersStay("", "c0340;c1205;c7120;e2080;s06;");
        answersStay("c0340;c1205;c4999;e2080;s06;", "e1091;e2032;s69;s40;d1;h03;t10;c2110;");
        answersStay("s59;s03;s70;c0993;c1227;e3093;e0592;t01;", "e1091;c7310;s49;d1;t01;d0;t21;t36;");
        answersStay("c0909;c3440;s09;s60;h05;", "e2013;e2123;e2512;e1001;t13;t00;c2550;");
        boughtAfterwards("c0340;c1205;c2110;", "e2080;e1091;d1;h03;", "s69;s06;s40;s29;");
        boughtAfterwards("c0909;c1223;c3440;", "e2013;e3012;h05;", "s03;s59;s60;s10;s73;");
        boughtAfterwards("c0110;c2550;", "", "s70;");
        Due.end();
    }

    private static void add(String told, ToLongFunction<MeatForDiamonds> made) {
        CALLS.add(new Call(told, made));
    }

    private static void callsOfSheepAndCells() {
        for (int sheep = 0; sheep < 5; sheep++) {
            int s = sheep;
            for (int cell = 0; cell < 8; cell++) {
                int c = cell;
                for (int number = 0; number < 4; number++) {
                    int what = number;
                    add("brings " + s + c + what, x -> x.brings(s, c, what));
                    add("bestHour " + s + c + what, x -> x.bestHour(s, c, what));
                    add("drum " + s + c + what, x -> x.drum(s, c, 3, what));
                }
                add("throwsOne " + s + c, x -> x.throwsOne(s, c));
                add("judge " + s + c, x -> x.judge(s, c, 1));
            }
            for (int number = 0; number < 6; number++) {
                int what = number;
                add("sheep " + s + what, x -> x.sheep(s, what));
                add("eagle " + s + what, x -> x.eagle(s, what));
                add("lifts " + s + what, x -> x.lifts(s, what));
                add("mean " + s + what, x -> x.mean(s, what));
            }
            add("bestCell " + s, x -> x.bestCell(s));
            add("safe " + s, x -> x.safe(s));
        }
    }

    private static void callsByTheRow() {
        for (int sheep = 0; sheep < 5; sheep++) {
            int s = sheep;
            for (int shelf : new int[] {1, 3, 4}) {
                int d = shelf;
                for (int number = 0; number < 3; number++) {
                    int what = number;
                    add("still " + s + d + what, x -> x.still(s, d, what));
                    add("tellsMost " + s + d + what, x -> x.tellsMost(s, d, what));
                }
                add("forged " + s + d, x -> x.forged(s, d));
            }
        }
    }

    private static void otherCalls() {
        for (int number = 0; number < 8; number++) {
            int n = number;
            for (int what = 0; what < 3; what++) {
                int which = what;
                add("cellOf " + n + which, x -> x.cellOf(n, which));
                add("greedily " + n + which, x -> x.greedily(n, which));
                add("seasons " + n + which, x -> x.seasons(n, 77 * n, which));
            }
            for (int v = 0; v < 30; v++) {
                int just = v;
                add("whose " + n + just, x -> x.whose(n, just));
            }
            add("nest " + n, x -> x.nest(n));
            add("left " + n, x -> x.left(n));
            add("merchants " + n, x -> x.merchants(n));
            add("quarrel " + n, x -> x.quarrel(n));
            add("count " + n, x -> x.count(n));
            add("twoThrows " + n, x -> x.twoThrows(n));
            add("lays " + n, x -> x.lays(n, 1, 2, 3));
            add("waits " + n, x -> x.waits(n));
            add("set " + n, x -> x.set(1, n));
        }
        for (int weight = 1; weight <= 60; weight++) {
            int w = weight;
            add("man " + w, x -> x.man(w));
        }
        add("bestThrow", MeatForDiamonds::bestThrow);
        add("gain", MeatForDiamonds::gain);
        add("noon", MeatForDiamonds::noon);
        add("drums", x -> x.set(0, 0));
        add("image", MeatForDiamonds::image);
        add("buys", x -> x.buys(2));
        add("valley", x -> Due.tell(x, "c0110;s00;h01;t00;"));
    }

    private static void tellIfAny(MeatForDiamonds x, String text) {
        Due.isTrue("text " + text, text.isEmpty() || Due.tell(x, text) > 0);
    }

    /** A row that no pair fits, one that all fit, one that some fit. */
    private static MeatForDiamonds withShelves() {
        MeatForDiamonds x = new MeatForDiamonds();
        Due.row(x, 1, 1, 5, 5, -32768, 0);
        Due.row(x, 3, 0);
        Due.row(x, 4, 2, 5);
        x.keep(2, 1, 3, 4);
        return x;
    }

    private static MeatForDiamonds straight(String first, String then) {
        MeatForDiamonds x = withShelves();
        tellIfAny(x, first + then);
        return x;
    }

    /** An image in between, and other things thought of. */
    private static MeatForDiamonds bySteps(String first, String then) {
        MeatForDiamonds x = withShelves();
        tellIfAny(x, first);
        x.image();
        tellIfAny(x, then);
        x.drum(0, 0, 8, 0);
        x.greedily(20, 1);
        x.man(60);
        return x;
    }

    /** More was told, thrown and thought of, but an image of this is RESTORED. */
    private static MeatForDiamonds byImage(String first, String then) {
        MeatForDiamonds x = straight(first, then);
        x.image();
        tellIfAny(x, "c0990;c1990;c2990;c7990;s01;s02;h07;d1;t00;t01;");
        Due.tell(x, "e3003;");
        x.drum(0, 0, 8, 0);
        x.seasons(20, 5, 0);
        x.restore();
        return x;
    }

    private static void answersStay(String first, String then) {
        for (Call call : CALLS) {
            MeatForDiamonds x = straight(first, then);
            long due = call.made().applyAsLong(x);
            String after = Told.valley(x);
            same(call, due, after, bySteps(first, then), ", by steps: " + first + then);
            same(call, due, after, byImage(first, then), ", by image: " + first + then);
        }
    }

    /** Sheep are bought, not told, where other ones had been told and restored away, or none. */
    private static void boughtAfterwards(String first, String then, String flock) {
        for (Call call : CALLS) {
            MeatForDiamonds x = straight(first, then + flock);
            long due = call.made().applyAsLong(x);
            String after = Told.valley(x);
            MeatForDiamonds others = straight(first, then);
            others.image();
            tellIfAny(others, "s50;s35;s14;s09;s49;c0770;h09;t00;");
            others.restore();
            buy(others, flock);
            same(call, due, after, others, ", other ones: " + first + then + flock);
            MeatForDiamonds none = straight(first, then);
            buy(none, flock);
            same(call, due, after, none, ", none: " + first + then + flock);
        }
    }

    private static void buy(MeatForDiamonds x, String flock) {
        for (int at = 0; at < flock.length(); at += 4) {
            x.keep(2, 1, flock.charAt(at + 1) - '0', flock.charAt(at + 2) - '0');
            Due.isTrue("bought", x.buys(2) >= 0);
        }
        x.keep(2, 1, 3, 4);
    }

    private static void same(Call call, long due, String after, MeatForDiamonds x, String how) {
        Due.is(call.told() + how, call.made().applyAsLong(x), due);
        String told = Told.valley(x);
        Due.isTrue(call.told() + how + "\n" + after + "\n" + told, told.equals(after));
    }
}
