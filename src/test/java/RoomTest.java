import java.lang.management.ManagementFactory;

/** A run's room: no call but those that make sheep may make objects, or they would add up over 512 calls. */
public final class RoomTest {
    private static final int CALLS = 512;
    private static final long SMALL = 100_000;

    private RoomTest() {
    }

    public static void main(String[] args) {
        MeatForDiamonds x = Due.valley("c0999;c1990;c2905;c3229;e3090;e2081;e1072;e0563;s09;s59;s60;s49;s39;s70;s06;");
        Due.row(x, 0, 2, new int[100]);
        Due.row(x, 1, 0, "s00;d1;h01;t00;c0000;".chars().toArray());
        long worth = allCalls(x);
        long before = allocated();
        for (int i = 0; i < CALLS; i++) {
            worth += allCalls(x);
        }
        long used = allocated() - before;
        System.out.println(used + " bytes for " + CALLS + " calls of each kind, " + worth);
        Due.isTrue("calls make next to nothing: " + used + " bytes", used < SMALL);
        Due.end();
    }

    private static long allocated() {
        return ((com.sun.management.ThreadMXBean) ManagementFactory.getThreadMXBean()).getCurrentThreadAllocatedBytes();
    }

    private static long allCalls(MeatForDiamonds x) {
        long all = x.valley(1) + x.cellOf(0, 0) + x.eagle(0, 0) + x.sheep(0, 2) + x.nest(0) + x.lays(0, 9, 9, 0) + x.set(1, 9);
        all += x.image() + x.throwsOne(2, 7) + x.waits(3) + x.restore() + x.count(7);
        all += x.brings(0, 0, 1) + x.bestCell(0) + x.bestThrow() + x.gain() + x.bestHour(0, 0, 0) + x.twoThrows(0);
        all += x.greedily(20, 0) + x.drum(0, 0, 8, 0) + x.lifts(0, 1) + x.man(60) + x.safe(0) + x.noon() + x.left(0);
        all += x.still(5, 0, 0) + x.tellsMost(5, 0, 0) + x.whose(0, 5) + x.mean(0, 0) + x.merchants(0) + x.quarrel(2);
        all += x.forged(5, 0) + x.judge(5, 0, 0) + x.seasons(20, 5, 0);
        return all + x.row(2, 2, 100) + x.put(2, 99, 1) + x.copy(0, 0, 2, 0, 100) + x.element(2, 99);
    }
}
