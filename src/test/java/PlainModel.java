import java.util.ArrayList;
import java.util.Arrays;
import java.util.List;
import java.util.TreeSet;
import java.util.regex.Matcher;
import java.util.regex.Pattern;

/**
 * The document once more, in another way: every search tries all there is on copies, with no regard for room or speed.
 * Its methods bear the names of the class's face, so that RandomRunsTest can call both by name.
 */
public final class PlainModel {
    private static final int[] UNDER = {-1, 0, 0, 2, 1, 2, 1, 0};
    private static final Pattern TEXT = Pattern.compile("([ce][0-9]{4};|[sht][0-9]{2};|d[0-9];)+");

    /** What a THROW came to. */
    private record Thrown(int brought, int eagle, int nest, boolean eaten) {
    }

    /** What there is, but shelves; EAGLES are STRENGTH, HUNGER, NEST, WARY, sheep KIND, FIGURE. */
    private static final class State {
        int[][] cells = new int[8][3];
        List<int[]> eagles = new ArrayList<>();
        List<int[]> sheep = new ArrayList<>();
        int[] nests = new int[4];
        int hour = 6;
        int drums;

        State copy() {
            State other = new State();
            for (int c = 0; c < 8; c++) {
                other.cells[c] = cells[c].clone();
            }
            eagles.forEach(e -> other.eagles.add(e.clone()));
            sheep.forEach(s -> other.sheep.add(s.clone()));
            other.nests = nests.clone();
            other.hour = hour;
            other.drums = drums;
            return other;
        }

        int of(int s, int what) {
            int[] one = sheep.get(s);
            return number(one[0], one[1], what);
        }

        boolean flies(int s, int c) {
            return c <= of(s, 4);
        }

        Thrown toss(int s, int c) {
            int weight = of(s, 2);
            boolean noon = hour == 11 || hour == 12 || hour == 13;
            boolean eaten = cells[c][2] > weight / 2 && !noon;
            int carrier = -4;
            for (int hunger = 9; hunger >= 0 && carrier < 0 && !eaten; hunger--) {
                for (int e = eagles.size() - 1; e >= 0; e--) {
                    int[] bird = eagles.get(e);
                    if (bird[1] == hunger && bird[0] + hunger >= weight && bird[3] < 5) {
                        carrier = e;
                    }
                }
            }
            int brought = 0;
            for (int e = 0; e < eagles.size(); e++) {
                int[] bird = eagles.get(e);
                if (e != carrier || drums == 1) {
                    bird[1] = Math.min(9, bird[1] + 1);
                }
                if (e == carrier) {
                    bird[1] = drums == 1 ? bird[1] : Math.max(0, bird[1] - weight / 3);
                    bird[3] = Math.max(0, Math.min(9, bird[3] + (drums == 1 ? 1 : -1)));
                    brought = takeStones(cells[c], of(s, 3));
                    nests[bird[2]] += brought;
                }
            }
            hour = hour == 23 ? 0 : hour + 1;
            return new Thrown(brought, carrier, carrier < 0 ? -4 : eagles.get(carrier)[2], eaten);
        }

        void pass(int hours) {
            for (int h = 0; h < hours; h++) {
                hour = hour == 23 ? 0 : hour + 1;
            }
            for (int[] bird : eagles) {
                bird[1] = Math.min(9, bird[1] + hours / 4);
            }
        }

        Thrown inMind(int s, int c) {
            return copy().toss(s, c);
        }

        int gainOf(int s, int c) {
            return inMind(s, c).brought() - of(s, 5);
        }

        int best() {
            int best = -4;
            for (int t = 0; t < 78; t++) {
                boolean can = t / 10 < sheep.size() && t % 10 < 8 && flies(t / 10, t % 10);
                if (can && (best < 0 || gainOf(t / 10, t % 10) > gainOf(best / 10, best % 10))) {
                    best = t;
                }
            }
            return best;
        }
    }

    /** One stone after the other; what they are worth. */
    private static int takeStones(int[] cell, int sticks) {
        int worth = 0;
        for (int i = 0; i < sticks; i++) {
            if (cell[0] > 0) {
                cell[0]--;
                worth += 5;
            } else if (cell[1] > 0) {
                cell[1]--;
                worth++;
            }
        }
        return worth;
    }

    /** 2 WEIGHT, 3 STICKS, 4 FLIES, 5 PRICE, 6 COST of a KIND with a FIGURE. */
    private static int number(int kind, int f, int what) {
        int base = kind == 0 ? 0 : number(UNDER[kind], f, what);
        return switch (kind * 10 + what) {
            case 2 -> 6 + f;
            case 3 -> 1 + f / 3;
            case 4 -> 4;
            case 5 -> 5;
            case 6 -> 3;
            case 12 -> base - 3;
            case 13, 16 -> base - 1;
            case 14 -> base + 2;
            case 15 -> base - 2;
            case 22 -> base + 4;
            case 23 -> base + 2;
            case 24 -> base - 1;
            case 25, 26 -> base + f;
            case 32 -> base + 8;
            case 35 -> base + 20;
            case 36 -> base * 2;
            case 43, 45 -> base + 1;
            case 46 -> base + 4;
            case 52, 53, 55 -> base * 2;
            case 54 -> base - 1;
            case 56 -> base + 1;
            case 64 -> 7;
            case 65 -> 0;
            case 66 -> base / 2;
            case 72 -> 2;
            case 73 -> 0;
            case 74 -> base + 3;
            case 75 -> base - 4;
            case 76 -> base - 2;
            default -> base;
        };
    }

    private State now = new State();
    private State image;
    /** Null; or -1, KIND, FIGURE; or SORT and the elements. */
    private final int[][] shelves = new int[8][];

    private static boolean out(int v, int least, int most) {
        return v < least || v > most;
    }

    private boolean noSheep(int s) {
        return out(s, 0, now.sheep.size() - 1);
    }

    private int throwRefused(boolean otherWrong, int s, int c) {
        if (otherWrong || noSheep(s) || out(c, 0, 7)) {
            return -1;
        }
        return now.flies(s, c) ? 0 : -3;
    }

    private int heldRefused(boolean otherWrong, int d, boolean row) {
        if (otherWrong || out(d, 0, 7)) {
            return -1;
        }
        if (shelves[d] == null) {
            return -11;
        }
        return shelves[d][0] == -1 == row ? -12 : 0;
    }

    public int valley(int d) {
        int refused = heldRefused(false, d, true);
        if (refused == 0 && shelves[d][0] != 0) {
            refused = -12;
        }
        if (refused != 0) {
            return refused;
        }
        StringBuilder text = new StringBuilder();
        for (int i = 1; i < shelves[d].length; i++) {
            text.append((char) (shelves[d][i] & 255));
            Matcher so = TEXT.matcher(text);
            if (!so.matches() && !so.hitEnd()) {
                return -1000 - (i - 1);
            }
        }
        if (!TEXT.matcher(text).matches()) {
            return -1000 - text.length();
        }
        State then = now.copy();
        int place = 0;
        String[] statements = text.toString().split(";");
        for (String statement : statements) {
            if (!follows(then, statement)) {
                return -2000 - place;
            }
            place += statement.length() + 1;
        }
        now = then;
        return statements.length;
    }

    private static boolean follows(State then, String statement) {
        int all = Integer.parseInt(statement.substring(1));
        switch (statement.charAt(0)) {
            case 'c':
                if (all >= 8000) {
                    return false;
                }
                then.cells[all / 1000] = new int[] {all / 100 % 10, all / 10 % 10, all % 10};
                return true;
            case 'e':
                if (out(all / 100, 1, 30) || all % 10 > 3 || then.eagles.size() == 4) {
                    return false;
                }
                then.eagles.add(new int[] {all / 100, all / 10 % 10, all % 10, 0});
                return true;
            case 's':
                if (all >= 80 || then.sheep.size() == 7) {
                    return false;
                }
                then.sheep.add(new int[] {all / 10, all % 10});
                return true;
            case 'd':
                then.drums = all;
                return all < 2;
            case 'h':
                then.pass(all);
                return !out(all, 1, 60);
            default:
                if (all / 10 >= then.sheep.size() || all % 10 > 7 || !then.flies(all / 10, all % 10)) {
                    return false;
                }
                then.toss(all / 10, all % 10);
                return true;
        }
    }

    public int cellOf(int c, int what) {
        return out(c, 0, 7) || out(what, 0, 2) ? -1 : now.cells[c][what];
    }

    public int eagle(int e, int what) {
        return out(e, 0, now.eagles.size() - 1) || out(what, 0, 3) ? -1 : now.eagles.get(e)[what];
    }

    public int sheep(int s, int what) {
        if (noSheep(s) || out(what, 0, 5)) {
            return -1;
        }
        return what < 2 ? now.sheep.get(s)[what] : now.of(s, what);
    }

    public int nest(int n) {
        return out(n, 0, 3) ? -1 : now.nests[n];
    }

    public int buys(int d) {
        int refused = heldRefused(false, d, false);
        if (refused != 0) {
            return refused;
        }
        if (now.sheep.size() == 7) {
            return -2;
        }
        now.sheep.add(new int[] {shelves[d][1], shelves[d][2]});
        return now.sheep.size() - 1;
    }

    public int lays(int c, int big, int small, int snakes) {
        if (out(c, 0, 7) || out(big, 0, 9) || out(small, 0, 9) || out(snakes, 0, 9)) {
            return -1;
        }
        int had = now.cells[c][0];
        now.cells[c] = new int[] {big, small, snakes};
        return had;
    }

    public int set(int what, int v) {
        if (out(what, 0, 1) || out(v, 0, what == 0 ? 1 : 23)) {
            return -1;
        }
        int was = what == 0 ? now.drums : now.hour;
        if (what == 0) {
            now.drums = v;
        } else {
            now.hour = v;
        }
        return was;
    }

    public int throwsOne(int s, int c) {
        int refused = throwRefused(false, s, c);
        return refused != 0 ? refused : now.toss(s, c).brought();
    }

    public int waits(int hours) {
        if (out(hours, 1, 60)) {
            return -1;
        }
        now.pass(hours);
        return now.hour;
    }

    public int brings(int s, int c, int what) {
        int refused = throwRefused(out(what, 0, 3), s, c);
        if (refused != 0) {
            return refused;
        }
        Thrown thrown = now.inMind(s, c);
        return new int[] {thrown.brought(), thrown.eagle(), thrown.nest(), thrown.eaten() ? 1 : 0}[what];
    }

    public int bestCell(int s) {
        if (noSheep(s)) {
            return -1;
        }
        int best = 0;
        for (int c = 0; c < 8; c++) {
            if (now.flies(s, c) && now.inMind(s, c).brought() > now.inMind(s, best).brought()) {
                best = c;
            }
        }
        return best;
    }

    public int bestThrow() {
        return now.best();
    }

    public int gain() {
        int best = now.best();
        return best < 0 ? 1000000004 : now.gainOf(best / 10, best % 10);
    }

    public int bestHour(int s, int c, int what) {
        int refused = throwRefused(out(what, 0, 1), s, c);
        if (refused != 0) {
            return refused;
        }
        int[] brought = new int[24];
        for (int h = 0; h < 24; h++) {
            State then = now.copy();
            then.pass(h);
            brought[h] = then.toss(s, c).brought();
        }
        return firstMost(brought)[what];
    }

    /** The first place of the greatest number, and that. */
    private static int[] firstMost(int[] numbers) {
        int most = Arrays.stream(numbers).max().getAsInt();
        int place = 0;
        while (numbers[place] != most) {
            place++;
        }
        return new int[] {place, most};
    }

    public int twoThrows(int what) {
        if (out(what, 0, 1)) {
            return 1000000001;
        }
        if (now.sheep.isEmpty()) {
            return 1000000004;
        }
        int[] both = new int[78];
        Arrays.fill(both, Integer.MIN_VALUE);
        for (int t = 0; t < 78; t++) {
            if (t / 10 < now.sheep.size() && t % 10 < 8 && now.flies(t / 10, t % 10)) {
                State then = now.copy();
                int first = then.toss(t / 10, t % 10).brought() - now.of(t / 10, 5);
                int second = then.best();
                both[t] = first + then.gainOf(second / 10, second % 10);
            }
        }
        return firstMost(both)[1 - what];
    }

    public int greedily(int n, int what) {
        if (out(n, 0, 20) || out(what, 0, 1)) {
            return -1;
        }
        State then = now.copy();
        int[] answer = {0, 0};
        for (int i = 0; i < n; i++) {
            int best = then.best();
            if (best < 0 || then.gainOf(best / 10, best % 10) <= 0) {
                break;
            }
            answer[0] += then.toss(best / 10, best % 10).brought() - then.of(best / 10, 5);
            answer[1]++;
        }
        return answer[what];
    }

    public int drum(int s, int c, int n, int what) {
        int refused = throwRefused(out(n, 0, 8) || out(what, 0, 1), s, c);
        if (refused != 0) {
            return refused;
        }
        int[] brought = new int[1 << n];
        drumOn(now, s, c, n, brought, 0, 0, 0);
        return firstMost(brought)[what];
    }

    private static void drumOn(State from, int s, int c, int n, int[] all, int i, int bits, int brought) {
        if (i == n) {
            all[bits] = brought;
            return;
        }
        for (int drums = 0; drums < 2; drums++) {
            State then = from.copy();
            then.drums = drums;
            int more = then.toss(s, c).brought();
            drumOn(then, s, c, n, all, i + 1, bits + (drums << i), brought + more);
        }
    }

    public int lifts(int e, int what) {
        if (out(e, 0, now.eagles.size() - 1) || out(what, 0, 1)) {
            return -1;
        }
        int most = now.eagles.get(e)[0] + now.eagles.get(e)[1];
        int sheep = 0;
        for (int s = 0; s < now.sheep.size(); s++) {
            sheep += now.of(s, 2) <= most ? 1 : 0;
        }
        return what == 0 ? most : sheep;
    }

    public int man(int w) {
        if (out(w, 1, 60)) {
            return -1;
        }
        for (int h = 0; h <= 60; h++) {
            State then = now.copy();
            then.pass(h);
            if (then.eagles.stream().anyMatch(e -> e[3] < 5 && e[0] + e[1] >= w)) {
                return h;
            }
        }
        return -4;
    }

    public int safe(int s) {
        if (noSheep(s)) {
            return -1;
        }
        int bits = 0;
        for (int c = 0; c < 8; c++) {
            bits += now.inMind(s, c).eaten() ? 0 : 1 << c;
        }
        return bits;
    }

    public int noon() {
        int hours = 0;
        while (out((now.hour + hours) % 24, 11, 13)) {
            hours++;
        }
        return hours;
    }

    public int left(int what) {
        int[] worth = new int[8];
        for (int c = 0; c < 8; c++) {
            worth[c] = 5 * now.cells[c][0] + now.cells[c][1];
        }
        return out(what, 0, 1) ? -1 : what == 0 ? Arrays.stream(worth).sum() : firstMost(worth)[0];
    }

    /** The pairs that fit the first elements of a row: BIG, SMALL at first, BIG, SMALL left. */
    private List<int[]> pairs(int s, int d, int elements) {
        List<int[]> fitting = new ArrayList<>();
        for (int big = 0; big < 10; big++) {
            for (int small = 0; small < 10; small++) {
                int[] cell = {big, small};
                boolean fits = true;
                for (int i = 0; i < elements; i++) {
                    fits &= takeStones(cell, now.of(s, 3)) == shelves[d][i + 1];
                }
                if (fits) {
                    fitting.add(new int[] {big, small, cell[0], cell[1]});
                }
            }
        }
        return fitting;
    }

    public int still(int s, int d, int what) {
        int refused = heldRefused(noSheep(s) || out(what, 0, 2), d, true);
        if (refused != 0) {
            return refused;
        }
        List<int[]> pairs = pairs(s, d, shelves[d].length - 1);
        if (what == 0 || pairs.isEmpty()) {
            return what == 0 ? pairs.size() : -4;
        }
        int[] least = pairs.get(0);
        return what == 1 ? 10 * least[0] + least[1] : 5 * least[2] + least[3];
    }

    public int tellsMost(int s, int d, int what) {
        int refused = heldRefused(noSheep(s) || out(what, 0, 1), d, true);
        if (refused != 0) {
            return refused;
        }
        int[] parts = new int[now.sheep.size()];
        for (int t = 0; t < parts.length; t++) {
            TreeSet<Integer> unlike = new TreeSet<>();
            for (int[] pair : pairs(s, d, shelves[d].length - 1)) {
                unlike.add(takeStones(new int[] {pair[2], pair[3]}, now.of(t, 3)));
            }
            parts[t] = unlike.size();
        }
        int[] best = firstMost(parts);
        return best[1] == 0 ? -4 : best[what];
    }

    public int whose(int c, int v) {
        if (out(c, 0, 7) || v < 0) {
            return -1;
        }
        int bits = 0;
        for (int s = 0; s < now.sheep.size(); s++) {
            bits += now.flies(s, c) && now.inMind(s, c).brought() == v ? 1 << s : 0;
        }
        return bits;
    }

    public long mean(int s, int part) {
        if (noSheep(s) || out(part, 0, 1)) {
            return 1000000001L;
        }
        int all = 0;
        int cells = 0;
        for (int c = 0; c < 8 && now.flies(s, c); c++) {
            all += now.inMind(s, c).brought();
            cells++;
        }
        int common = java.math.BigInteger.valueOf(all).gcd(java.math.BigInteger.valueOf(cells)).intValue();
        return (part == 0 ? all : cells) / common;
    }

    public int merchants(int c) {
        if (out(c, 0, 7)) {
            return -1;
        }
        int none = now.sheep.size();
        for (int a = 0; a <= none; a++) {
            for (int b = 0; b <= none; b++) {
                if (chosen(a, c) && chosen(b, c) && stays(a, b, c)) {
                    return 10 * a + b;
                }
            }
        }
        return -4;
    }

    private boolean chosen(int s, int c) {
        return s == now.sheep.size() || now.flies(s, c);
    }

    private boolean stays(int a, int b, int c) {
        int[] gains = gainsOfPair(a, b, c);
        for (int other = 0; other <= now.sheep.size(); other++) {
            if (chosen(other, c)
                && (gainsOfPair(other, b, c)[0] > gains[0] || gainsOfPair(a, other, c)[1] > gains[1])) {
                return false;
            }
        }
        return true;
    }

    private int[] gainsOfPair(int a, int b, int c) {
        State then = now.copy();
        int none = now.sheep.size();
        int first = a == none ? 0 : then.toss(a, c).brought() - now.of(a, 5);
        int second = b == none ? 0 : then.toss(b, c).brought() - now.of(b, 5);
        return new int[] {first, second};
    }

    public int quarrel(int what) {
        int[] most = firstMost(now.nests);
        int share = Arrays.stream(now.nests).sum() / 4;
        int least = Integer.MAX_VALUE;
        for (int more = 0; more < 16; more++) {
            int moved = 0;
            int balance = 0;
            for (int n = 0; n < 4; n++) {
                int over = now.nests[n] - share - (more >> n & 1);
                moved += Math.max(0, over);
                balance += over;
            }
            least = balance == 0 ? Math.min(least, moved) : least;
        }
        return switch (what) {
            case 0 -> most[1] - Arrays.stream(now.nests).min().getAsInt();
            case 1 -> most[0];
            case 2 -> least;
            default -> -1;
        };
    }

    public int forged(int s, int d) {
        int refused = heldRefused(noSheep(s), d, true);
        if (refused != 0) {
            return refused;
        }
        for (int i = 0; i < shelves[d].length - 1; i++) {
            if (pairs(s, d, i + 1).isEmpty()) {
                return i;
            }
        }
        return -4;
    }

    public int judge(int s, int c, int d) {
        int refused = throwRefused(out(d, 0, 7), s, c);
        refused = refused == 0 ? heldRefused(false, d, true) : refused;
        if (refused != 0) {
            return refused;
        }
        int least = new int[] {Byte.MIN_VALUE, Short.MIN_VALUE, Integer.MIN_VALUE}[shelves[d][0]];
        State then = now.copy();
        for (int i = 1; i < shelves[d].length; i++) {
            int brought = then.toss(s, c).brought();
            if (shelves[d][i] != brought && shelves[d][i] != least) {
                return i - 1;
            }
        }
        return -4;
    }

    public int seasons(int n, int z, int what) {
        if (out(n, 1, 20) || out(what, 0, 1)) {
            return -1;
        }
        if (now.sheep.isEmpty()) {
            return -3;
        }
        int[] seed = {z};
        int brought = 0;
        int eaten = 0;
        for (int season = 0; season < n; season++) {
            State then = now.copy();
            for (int i = 0; i < 10; i++) {
                int s = draw(seed, then.sheep.size());
                Thrown thrown = then.toss(s, draw(seed, 1 + Math.min(7, then.of(s, 4))));
                brought += thrown.brought();
                eaten += thrown.eaten() ? 1 : 0;
            }
        }
        return what == 0 ? brought : eaten;
    }

    private static int draw(int[] seed, int below) {
        seed[0] = (int) (seed[0] * 1103515245L + 12345L);
        return (seed[0] & 0x7fffffff) / 65536 % below;
    }

    public int image() {
        image = now.copy();
        return now.hour;
    }

    public int restore() {
        if (image == null) {
            return -3;
        }
        now = image.copy();
        return now.hour;
    }

    public int count(int what) {
        return switch (what) {
            case 0 -> now.eagles.size();
            case 1 -> now.sheep.size();
            case 2 -> now.hour;
            case 3 -> now.drums;
            case 4 -> Arrays.stream(now.cells).mapToInt(c -> c[0]).sum();
            case 5 -> Arrays.stream(now.cells).mapToInt(c -> c[1]).sum();
            case 6 -> Arrays.stream(now.nests).sum();
            case 7 -> now.eagles.stream().mapToInt(e -> e[1]).sum();
            default -> -1;
        };
    }

    public int keep(int d, int what, int k, int figure) {
        if (out(d, 0, 7) || out(what, 0, 1) || what == 1 && (out(k, 0, 7) || out(figure, 0, 9))) {
            return -1;
        }
        shelves[d] = what == 0 ? null : new int[] {-1, k, figure};
        return 0;
    }

    public int row(int d, int sort, int n) {
        if (out(d, 0, 7) || out(sort, 0, 2) || n > 100) {
            return -1;
        }
        if (n < 0) {
            return -14;
        }
        shelves[d] = new int[n + 1];
        shelves[d][0] = sort;
        return 0;
    }

    public int put(int d, int i, int v) {
        int refused = heldRefused(false, d, true);
        if (refused != 0) {
            return refused;
        }
        if (out(i, 0, shelves[d].length - 2)) {
            return -13;
        }
        shelves[d][i + 1] = new int[] {(byte) v, (short) v, v}[shelves[d][0]];
        return 0;
    }

    public long element(int d, int i) {
        if (out(d, 0, 7)) {
            throw new IllegalArgumentException();
        }
        if (heldRefused(false, d, true) != 0 || out(i, 0, shelves[d].length - 2)) {
            throw new IllegalStateException();
        }
        return shelves[d][i + 1];
    }

    public int copy(int d, int i, int e, int j, int n) {
        if (out(d, 0, 7) || out(e, 0, 7)) {
            return -1;
        }
        if (shelves[d] == null || shelves[e] == null) {
            return -11;
        }
        if (shelves[d][0] == -1 || shelves[e][0] != shelves[d][0]) {
            return -12;
        }
        if (i < 0 || j < 0 || n < 0 || (long) i + n > shelves[d].length - 1 || (long) j + n > shelves[e].length - 1) {
            return -13;
        }
        int[] from = shelves[d].clone();
        for (int k = 0; k < n; k++) {
            shelves[e][j + k + 1] = from[i + k + 1];
        }
        return n;
    }

    public int cost(int d) {
        int refused = heldRefused(false, d, false);
        return refused != 0 ? refused : number(shelves[d][1], shelves[d][2], 6);
    }

    public int toss(int d) {
        int refused = heldRefused(false, d, false);
        if (refused != 0) {
            return refused;
        }
        int figure = shelves[d][2];
        return switch (figure == 0 ? 7 : shelves[d][1]) {
            case 7 -> -15;
            case 3 -> 200 + cost(d);
            case 2, 5 -> 100 + figure;
            default -> figure;
        };
    }
}
