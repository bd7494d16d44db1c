import java.math.BigInteger;
import java.util.ArrayList;
import java.util.Arrays;
import java.util.HashMap;
import java.util.HashSet;
import java.util.LinkedHashMap;
import java.util.List;
import java.util.Map;
import java.util.Set;

/** The document once more, as slowly and plainly as it can be said, to hold DrownedLand against. */
final class NaiveLand {
    static final int NONE = -1;
    private int[] low = new int[256];
    private int[] high = new int[256];
    private int[] buckets = new int[256];
    private Map<Integer, Boolean> muds = new LinkedHashMap<>();
    private List<int[]> dries = new ArrayList<>();
    private List<int[]> finds = new ArrayList<>();
    private List<Integer> places = new ArrayList<>();
    private List<int[]> letters = new ArrayList<>();
    private final List<NaiveLand> images = new ArrayList<>();
    private final int[] refused = new int[3];
    private byte[] tape = new byte[0];
    private NaiveLaw law = new NaiveLaw(new byte[0]);
    private int fault = NONE;

    // only to keep the slow one from being far too slow; thrown away at each call that changes the ground or the LAW
    private final int[] knownSunk = new int[256];
    private final int[] knownRiver = new int[256];
    private final int[][] knownCoast = new int[200][256];
    private final int[][] knownIsland = new int[200][256];
    private final Map<String, int[]> knownRule = new HashMap<>();

    NaiveLand() {
        Arrays.fill(high, 99);
        forget();
    }

    private void forget() {
        Arrays.fill(knownSunk, -1);
        Arrays.fill(knownRiver, -1);
        for (int i = 0; i < 200; i++) {
            Arrays.fill(knownCoast[i], -1);
            Arrays.fill(knownIsland[i], -1);
        }
        knownRule.clear();
    }

    private void copy(NaiveLand o) {
        low = o.low.clone();
        high = o.high.clone();
        buckets = o.buckets.clone();
        muds = new LinkedHashMap<>(o.muds);
        dries = new ArrayList<>(o.dries);
        finds = new ArrayList<>(o.finds);
        places = new ArrayList<>(o.places);
        letters = new ArrayList<>(o.letters);
        forget();
    }

    private int refuse(int reason) {
        refused[reason]++;
        return NONE;
    }

    private static boolean in(int n, int least, int most) {
        return n >= least && n <= most;
    }

    boolean sound(int cell, int l, int h) {
        if (!in(cell, 0, 255) || !in(l, 0, 99) || !in(h, 0, 99) || h < l) {
            refuse(0);
            return false;
        }
        low[cell] = l;
        high[cell] = h;
        forget();
        return true;
    }

    int feed(int... five) {
        if (tape.length + 20 > 700) {
            return NONE;
        }
        byte[] more = Arrays.copyOf(tape, tape.length + 20);
        for (int i = 0; i < 20; i++) {
            more[tape.length + i] = (byte) (five[i / 4] >> (24 - i % 4 * 8));
        }
        tape = more;
        return tape.length;
    }

    int law(int n) {
        if (n < 0 || n > tape.length) {
            refuse(0);
            return -2;
        }
        NaiveLaw read = new NaiveLaw(Arrays.copyOf(tape, n));
        tape = new byte[0];
        fault = read.fault;
        if (fault != NONE) {
            return refuse(2);
        }
        law = read;
        forget();
        return law.rules.size();
    }

    int fault() {
        return fault;
    }

    int sea(int age, int what) {
        return in(age, 0, 99) && in(what, 0, 1) ? law.sea(age)[what] : NONE;
    }

    // ---- the ground ----

    private static List<Integer> beside(int c) {
        List<Integer> all = new ArrayList<>();
        for (int d = 0; d < 256; d++) {
            if (Math.abs(d % 16 - c % 16) + Math.abs(d / 16 - c / 16) == 1) {
                all.add(d);
            }
        }
        return all;
    }

    private static final List<List<Integer>> BESIDE = new ArrayList<>();
    static {
        for (int c = 0; c < 256; c++) {
            BESIDE.add(beside(c));
        }
    }

    private int sunk(int c) {
        if (knownSunk[c] < 0) {
            knownSunk[c] = law.first("sink", 0, c % 16, c / 16, 0, 0, 0, 0, 0);
        }
        return knownSunk[c];
    }

    private int lowOf(int c) {
        return Math.min(99, low[c] + sunk(c));
    }

    private int highOf(int c) {
        return Math.min(99, high[c] + sunk(c));
    }

    private int middle(int c) {
        return lowOf(c) + highOf(c);
    }

    private int flows(int c) {
        int to = NONE;
        for (int d : BESIDE.get(c)) {
            if (middle(d) < middle(c) && (to == NONE || middle(d) < middle(to))) {
                to = d;
            }
        }
        return to;
    }

    private boolean comesThrough(int from, int c) {
        int at = from;
        while (at != c && at != NONE) {
            at = flows(at);
        }
        return at == c;
    }

    private int river(int c) {
        if (knownRiver[c] < 0) {
            int n = 0;
            for (int d = 0; d < 256; d++) {
                n += comesThrough(d, c) ? 1 : 0;
            }
            knownRiver[c] = Math.min(99, n);
        }
        return knownRiver[c];
    }

    private int wind(int c) {
        int n = 0;
        for (int d = 0; d < 256; d++) {
            boolean round = d != c && Math.abs(d % 16 - c % 16) <= 1 && Math.abs(d / 16 - c / 16) <= 1;
            n += round && middle(d) > middle(c) ? 1 : 0;
        }
        return n;
    }

    private boolean sure(int c) {
        int to = flows(c);
        if (to == NONE || highOf(to) >= lowOf(c)) {
            return false;
        }
        for (int d : BESIDE.get(c)) {
            if (d != to && lowOf(d) < highOf(to)) {
                return false;
            }
        }
        return true;
    }

    private int end(int c) {
        int at = c;
        while (flows(at) != NONE) {
            at = flows(at);
        }
        return at;
    }

    int cell(int c, int what) {
        if (!in(c, 0, 255)) {
            return NONE;
        }
        switch (what) {
            case 0: return lowOf(c);
            case 1: return highOf(c);
            case 2: return sunk(c);
            case 3: return flows(c);
            case 4: return river(c);
            case 5: return sure(c) ? 1 : 0;
            case 6:
                for (int a = 0; a < 100; a++) {
                    if (law.sea(a)[1] >= lowOf(c)) {
                        return a;
                    }
                }
                return 100;
            case 7:
                for (int a = 0; a < 100; a++) {
                    if (law.sea(a)[0] >= highOf(c)) {
                        return a;
                    }
                }
                return 100;
            case 8: return buckets[c];
            case 9: return places.contains(c) ? 1 : 0;
            case 10: return muds.containsKey(c) ? muds.get(c) ? 1 : 0 : NONE;
            default: return NONE;
        }
    }

    int ends(int c, int what) {
        if (!in(c, 0, 255) || !in(what, 0, 1)) {
            return NONE;
        }
        if (what == 0) {
            return end(c);
        }
        int n = 0;
        for (int d = 0; d < 256; d++) {
            n += end(d) == end(c) ? 1 : 0;
        }
        return n;
    }

    // ---- an age ----

    private boolean land(int c, int age) {
        int[] sea = law.sea(age);
        return middle(c) > sea[0] + sea[1];
    }

    private int heightOf(int c, int age) {
        int[] sea = law.sea(age);
        return land(c, age) ? (middle(c) - sea[0] - sea[1]) / 2 : 0;
    }

    private int coast(int c, int age) {
        int[] sea = law.sea(age);
        int both = sea[0] + sea[1];
        if (knownCoast[both][c] < 0) {
            int best = 99;
            for (int d = 0; d < 256; d++) {
                if (!(middle(d) > both)) {
                    best = Math.min(best, Math.abs(d % 16 - c % 16) + Math.abs(d / 16 - c / 16));
                }
            }
            knownCoast[both][c] = best;
        }
        return knownCoast[both][c];
    }

    private int kind(int c, int age) {
        return (river(c) > 9 ? 1 : 0) | (coast(c, age) < 3 ? 2 : 0) | (wind(c) > 3 ? 4 : 0) | (heightOf(c, age) < 20 ? 8 : 0);
    }

    private Set<Integer> hanging(int c, Set<Integer> among) {
        Set<Integer> all = new HashSet<>();
        if (!among.contains(c)) {
            return all;
        }
        all.add(c);
        boolean more = true;
        while (more) {
            more = false;
            for (int d : among) {
                for (int e : BESIDE.get(d)) {
                    if (all.contains(e) && all.add(d)) {
                        more = true;
                    }
                }
            }
        }
        return all;
    }

    private Set<Integer> lands(int age) {
        int[] sea = law.sea(age);
        Set<Integer> all = new HashSet<>();
        for (int c = 0; c < 256; c++) {
            if (middle(c) > sea[0] + sea[1]) {
                all.add(c);
            }
        }
        return all;
    }

    private int island(int c, int age) {
        int[] sea = law.sea(age);
        int both = sea[0] + sea[1];
        if (knownIsland[both][c] < 0) {
            knownIsland[both][c] = hanging(c, lands(age)).size();
        }
        return knownIsland[both][c];
    }

    private int rule(String kind, int otherwise, int c, int age) {
        int[] known = knownRule.get(kind);
        if (known == null) {
            known = new int[25600];
            Arrays.fill(known, -1);
            knownRule.put(kind, known);
        }
        if (known[256 * age + c] < 0) {
            known[256 * age + c] = law.first(kind, otherwise, c % 16, c / 16, age,
                    heightOf(c, age), river(c), coast(c, age), wind(c));
        }
        return known[256 * age + c];
    }

    private int live(int c, int age) {
        return land(c, age) ? rule("live", 0, c, age) : 0;
    }

    int asked(int c, int age, int what) {
        if (!in(c, 0, 255) || !in(age, 0, 99)) {
            return NONE;
        }
        switch (what) {
            case 0: return land(c, age) ? 1 : 0;
            case 1: return heightOf(c, age);
            case 2: return coast(c, age);
            case 3: return wind(c);
            case 4: return island(c, age);
            case 5: return live(c, age);
            case 6: return rule("fish", 0, c, age);
            case 7: return rule("keep", 100, c, age);
            case 8: return kind(c, age);
            default: return NONE;
        }
    }

    int shore(int age) {
        if (!in(age, 0, 99)) {
            return NONE;
        }
        int n = 0;
        for (int c = 0; c < 256; c++) {
            for (int d : BESIDE.get(c)) {
                n += land(c, age) && !land(d, age) ? 1 : 0;
            }
        }
        return n;
    }

    int alone(int c, int most, int what) {
        if (!in(c, 0, 255) || !in(most, 1, 256) || !in(what, 0, 1)) {
            return NONE;
        }
        int best = 0;
        int first = NONE;
        for (int a = 0; a < 100; a++) {
            int b = a;
            while (b < 100 && in(island(c, b), 1, most)) {
                b++;
            }
            if (b - a > best) {
                best = b - a;
                first = a;
            }
        }
        return what == 0 ? best : first;
    }

    private static long part(long upper, long lower, int what) {
        long common = BigInteger.valueOf(upper).gcd(BigInteger.valueOf(lower)).longValue();
        return what == 0 ? upper / common : lower / common;
    }

    long lived(int c, int from, int to, int what) {
        if (!in(c, 0, 255) || !in(from, 0, 99) || !in(to, from, 99) || !in(what, 0, 1)) {
            return NONE;
        }
        long here = 0;
        long all = 0;
        for (int a = from; a <= to; a++) {
            here += live(c, a);
            for (int d = 0; d < 256; d++) {
                all += live(d, a);
            }
        }
        return all == 0 ? NONE : part(here, all, what);
    }

    // ---- dry places, buckets, finds ----

    int dry(int kind, boolean camp) {
        if (!in(kind, 0, 15)) {
            return refuse(0);
        }
        if (dries.size() == 80) {
            return refuse(1);
        }
        dries.add(new int[] {kind, camp ? 1 : 0});
        return dries.size();
    }

    int learnt(int kind, int what) {
        if (!in(kind, 0, 15) || !in(what, 0, 1)) {
            return NONE;
        }
        int camps = 0;
        int all = 0;
        for (int[] d : dries) {
            camps += d[0] == kind ? d[1] : 0;
            all += d[0] == kind ? 1 : 0;
        }
        return what == 0 ? camps + 1 : all + 2;
    }

    int tried(int what) {
        if (!in(what, 0, 1)) {
            return NONE;
        }
        int off = 0;
        for (int i = 0; i < dries.size(); i++) {
            int camps = 0;
            int all = 0;
            for (int j = 0; j < dries.size(); j++) {
                if (j != i && (what == 1 || dries.get(j)[0] == dries.get(i)[0])) {
                    camps += dries.get(j)[1];
                    all++;
                }
            }
            off += Math.abs(1000 * dries.get(i)[1] - 1000 * (camps + 1) / (all + 2));
        }
        return off;
    }

    int bucket(int c, int n) {
        if (!in(c, 0, 255) || !in(n, 1, 8)) {
            return refuse(0);
        }
        if (buckets[c] + n > 8) {
            return refuse(1);
        }
        buckets[c] += n;
        return buckets[c];
    }

    private BigInteger[] leftOf(int c, int age) {
        if (!land(c, age)) {
            return new BigInteger[] {BigInteger.ZERO, BigInteger.ONE};
        }
        BigInteger p = BigInteger.valueOf(learnt(kind(c, age), 0));
        BigInteger q = BigInteger.valueOf(learnt(kind(c, age), 1));
        BigInteger missed = BigInteger.valueOf(10 - law.catching()).pow(buckets[c]).multiply(p);
        BigInteger other = BigInteger.TEN.pow(buckets[c]).multiply(q.subtract(p));
        BigInteger all = missed.add(other);
        BigInteger common = missed.gcd(all);
        return new BigInteger[] {missed.divide(common), all.divide(common)};
    }

    long left(int c, int age, int what) {
        return in(c, 0, 255) && in(age, 0, 99) && in(what, 0, 1) ? leftOf(c, age)[what].longValueExact() : NONE;
    }

    int find(int c, int how, int from, int to) {
        if (!in(c, 0, 255) || !in(how, 0, 2) || !in(from, 0, 99) || !in(to, 0, 99) || from > to) {
            return refuse(0);
        }
        if (finds.size() == 60) {
            return refuse(1);
        }
        finds.add(new int[] {c, how, from, to});
        return finds.size() - 1;
    }

    int found(int f, int what) {
        return in(f, 0, finds.size() - 1) && in(what, 0, 3) ? finds.get(f)[what] : NONE;
    }

    long carried(int f, int what) {
        if (!in(f, 0, finds.size() - 1) || !in(what, 0, 1)) {
            return NONE;
        }
        int[] find = finds.get(f);
        long carry = law.carrying(find[1]);
        long all = 0;
        long here = 0;
        for (int a = find[2]; a <= find[3]; a++) {
            here += live(find[0], a);
            for (int d = 0; d < 256; d++) {
                all += live(d, a);
            }
        }
        long upper = carry * all;
        long other = (100 - carry) * 256 * here;
        return upper == 0 && other == 0 ? what : part(upper, upper + other, what);
    }

    // ---- the wave ----

    private boolean isGone(int c, int age, int high, int drop) {
        return land(c, age) && heightOf(c, age) < high - drop * coast(c, age);
    }

    int gone(int c, int age, int high, int drop) {
        if (!in(c, 0, 255) || !in(age, 0, 99) || !in(high, 1, 99) || !in(drop, 0, 20)) {
            return -2;
        }
        return land(c, age) ? isGone(c, age, high, drop) ? 1 : 0 : NONE;
    }

    int rest(int age, int high, int drop, int what) {
        if (!in(age, 0, 99) || !in(high, 1, 99) || !in(drop, 0, 20) || !in(what, 0, 2)) {
            return NONE;
        }
        Set<Integer> stay = new HashSet<>();
        int go = 0;
        for (int c : lands(age)) {
            if (isGone(c, age, high, drop)) {
                go++;
            } else {
                stay.add(c);
            }
        }
        if (what != 1) {
            return what == 0 ? stay.size() : go;
        }
        int isles = 0;
        while (!stay.isEmpty()) {
            stay.removeAll(hanging(stay.iterator().next(), stay));
            isles++;
        }
        return isles;
    }

    int mud(int c, boolean wet) {
        if (!in(c, 0, 255)) {
            return refuse(0);
        }
        if (muds.size() == 40 && !muds.containsKey(c)) {
            return refuse(1);
        }
        muds.put(c, wet);
        return muds.size();
    }

    int height(int age, int drop, int what) {
        if (!in(age, 0, 99) || !in(drop, 0, 20) || !in(what, 0, 2)) {
            return NONE;
        }
        List<Integer> can = new ArrayList<>();
        for (int h = 1; h <= 99; h++) {
            boolean well = true;
            for (int c : muds.keySet()) {
                well &= isGone(c, age, h, drop) == (muds.get(c) && land(c, age));
            }
            if (well) {
                can.add(h);
            }
        }
        if (what == 2) {
            return can.size();
        }
        return can.isEmpty() ? NONE : can.get(what == 0 ? 0 : can.size() - 1);
    }

    // ---- places ----

    int place(int c) {
        if (!in(c, 0, 255) || places.contains(c)) {
            return refuse(0);
        }
        if (places.size() == 10) {
            return refuse(1);
        }
        places.add(c);
        return places.size() - 1;
    }

    private long odds(int[] way, long[] lefts) {
        long leave = 1000000;
        for (int p = 0; p < way.length; p++) {
            long up = lefts[p];
            long down = 1;
            for (int k = 0; k < way[p]; k++) {
                up *= 10 - law.catching();
                down *= 10;
            }
            leave = leave * (1000000 - lefts[p] + up / down) / 1000000;
        }
        return 1000000 - leave;
    }

    /** All ways, those with more in the first PLACE ahead. */
    private static void ways(int[] way, int p, int n, List<int[]> all) {
        if (p == way.length) {
            if (n == 0) {
                all.add(way.clone());
            }
            return;
        }
        for (int k = n; k >= 0; k--) {
            way[p] = k;
            ways(way, p + 1, n - k, all);
        }
    }

    int ship(int n, int age, int what) {
        if (!in(n, 1, 6) || !in(age, 0, 99) || places.isEmpty() || what != 0 && !in(what, 10, 9 + places.size())) {
            return NONE;
        }
        long[] lefts = new long[places.size()];
        for (int p = 0; p < lefts.length; p++) {
            BigInteger[] l = leftOf(places.get(p), age);
            lefts[p] = l[0].multiply(BigInteger.valueOf(1000000)).divide(l[1]).longValueExact();
        }
        List<int[]> all = new ArrayList<>();
        ways(new int[lefts.length], 0, n, all);
        int[] best = all.get(0);
        for (int[] way : all) {
            if (odds(way, lefts) > odds(best, lefts)) {
                best = way;
            }
        }
        return what == 0 ? (int) odds(best, lefts) : best[what - 10];
    }

    int doubt(int age) {
        if (!in(age, 0, 99) || places.isEmpty()) {
            return NONE;
        }
        int best = 0;
        for (int p = 1; p < places.size(); p++) {
            if (offHalf(p, age)[0].multiply(offHalf(best, age)[1]).compareTo(offHalf(best, age)[0].multiply(offHalf(p, age)[1])) < 0) {
                best = p;
            }
        }
        return best;
    }

    private BigInteger[] offHalf(int p, int age) {
        BigInteger[] l = leftOf(places.get(p), age);
        return new BigInteger[] {l[0].multiply(BigInteger.TWO).subtract(l[1]).abs(), l[1]};
    }

    // ---- fishers, finds told ahead, worlds ----

    int lean(int quarter, int age) {
        if (!in(quarter, 0, 3) || !in(age, 0, 99)) {
            return NONE;
        }
        int sum = 0;
        for (int c = 0; c < 256; c++) {
            sum += c % 16 / 8 + c / 128 * 2 == quarter ? rule("fish", 0, c, age) : 0;
        }
        return sum;
    }

    long right(int quarter, int age, int what) {
        if (!in(quarter, 0, 3) || !in(age, 0, 99) || !in(what, 0, 1)) {
            return NONE;
        }
        long leanAll = 0;
        for (int q = 0; q < 4; q++) {
            leanAll += lean(q, age);
        }
        long here = 0;
        long all = 0;
        for (int[] f : finds) {
            if (f[1] == 0) {
                all++;
                here += f[0] % 16 / 8 + f[0] / 128 * 2 == quarter ? 1 : 0;
            }
        }
        if (lean(quarter, age) == 0 || all == 0) {
            return NONE;
        }
        return part(here * leanAll, lean(quarter, age) * all, what);
    }

    private List<Integer> row(int age) {
        List<Integer> cells = new ArrayList<>();
        for (int c = 0; c < 256; c++) {
            cells.add(c);
        }
        int[] lives = new int[256];
        for (int c = 0; c < 256; c++) {
            lives[c] = live(c, age);
        }
        cells.sort((a, b) -> lives[a] != lives[b] ? lives[b] - lives[a] : a - b);
        return cells;
    }

    int ahead(int age, int k) {
        return in(age, 0, 99) && in(k, 0, 255) ? row(age).get(k) : NONE;
    }

    int held(int age, int k, int what) {
        if (!in(age, 0, 99) || !in(k, 1, 256) || !in(what, 0, 1)) {
            return NONE;
        }
        List<Integer> first = row(age).subList(0, k);
        int n = 0;
        for (int[] f : finds) {
            n += what == 1 || first.contains(f[0]) ? 1 : 0;
        }
        return n;
    }

    private long z;

    private long draw(long modulo) {
        z = z * 6364136223846793005L + 1442695040888963407L;
        return (z >>> 33) % modulo;
    }

    int world(int seed, int age, int camps, int cell, int bs) {
        if (!in(seed, 0, 999999999) || !in(age, 0, 99) || !in(camps, 1, 200) || !in(cell, 0, 255) || !in(bs, 0, 99)) {
            return NONE;
        }
        long all = 0;
        for (int c = 0; c < 256; c++) {
            all += live(c, age);
        }
        if (all == 0) {
            return NONE;
        }
        z = seed;
        Set<Integer> kept = new HashSet<>();
        for (int i = 0; i < camps; i++) {
            long drawn = draw(all);
            int c = 0;
            long up = live(0, age);
            while (up <= drawn) {
                c++;
                up += live(c, age);
            }
            if (draw(100) < rule("keep", 100, c, age)) {
                kept.add(c);
            }
        }
        int hits = 0;
        for (int i = 0; i < bs; i++) {
            hits += draw(10) < law.catching() && kept.contains(cell) ? 1 : 0;
        }
        return hits;
    }

    int say(int c, int age) {
        if (!in(c, 0, 255) || !in(age, 0, 99)) {
            return -2;
        }
        if (!land(c, age)) {
            return NONE;
        }
        boolean fished = false;
        for (int[] f : finds) {
            if (f[0] == c && in(age, f[2], f[3])) {
                if (f[1] > 0) {
                    return 3;
                }
                fished = true;
            }
        }
        if (fished) {
            return 2;
        }
        BigInteger[] l = leftOf(c, age);
        return l[0].multiply(BigInteger.TWO).compareTo(l[1]) >= 0 ? 1 : 0;
    }

    int ford(int age, int line, int k) {
        if (!in(age, 0, 99) || !in(line, 2, 99) || k < -1) {
            return NONE;
        }
        List<Integer> all = new ArrayList<>();
        for (int c = 0; c < 256; c++) {
            boolean eastWest = c % 16 > 0 && c % 16 < 15 && bank(c - 1, age, line) && bank(c + 1, age, line);
            boolean northSouth = c / 16 > 0 && c / 16 < 15 && bank(c - 16, age, line) && bank(c + 16, age, line);
            if (land(c, age) && river(c) >= line && (eastWest || northSouth)) {
                all.add(c);
            }
        }
        return k == NONE ? all.size() : k < all.size() ? all.get(k) : NONE;
    }

    private boolean bank(int c, int age, int line) {
        return land(c, age) && river(c) < line;
    }

    // ---- letters ----

    int letter(boolean tree, int height, int from, int to) {
        if (!in(height, 0, 99) || !in(from, 0, 99) || !in(to, 0, 99) || from > to) {
            return refuse(0);
        }
        if (letters.size() == 40) {
            return refuse(1);
        }
        letters.add(new int[] {tree ? 1 : 0, height, from, to});
        return letters.size();
    }

    int levels(int age, int what) {
        if (!in(age, 0, 99) || !in(what, 0, 1)) {
            return NONE;
        }
        int answer = NONE;
        for (int level = 0; level < 100; level++) {
            boolean can = true;
            for (int[] l : letters) {
                if (l[0] == 1 && l[2] >= age && level >= l[1] || l[0] == 0 && l[3] <= age && level < l[1]) {
                    can = false;
                }
            }
            if (can && (what == 1 || answer == NONE)) {
                answer = level;
            }
        }
        return answer;
    }

    int fits(int k) {
        int n = 0;
        int first = NONE;
        for (int i = 0; i < letters.size(); i++) {
            int[] l = letters.get(i);
            boolean fit = false;
            for (int a = l[2]; a <= l[3]; a++) {
                fit |= l[0] == 1 ? law.sea(a)[0] < l[1] : law.sea(a)[1] >= l[1];
            }
            n += fit ? 1 : 0;
            first = !fit && first == NONE ? i : first;
        }
        return k == NONE ? n : k == 0 ? first : NONE;
    }

    int unlike(int age) {
        if (!in(age, 0, 99) || lands(age).isEmpty() || dries.isEmpty()) {
            return NONE;
        }
        int sum = 0;
        for (int kind = 0; kind < 16; kind++) {
            int wet = 0;
            for (int c : lands(age)) {
                wet += kind(c, age) == kind ? 1 : 0;
            }
            int dry = learnt(kind, 1) - 2;
            sum += Math.abs(1000 * wet / lands(age).size() - 1000 * dry / dries.size());
        }
        return sum;
    }

    int image() {
        if (images.size() == 3) {
            return refuse(1);
        }
        NaiveLand image = new NaiveLand();
        image.copy(this);
        images.add(image);
        return images.size() - 1;
    }

    boolean restore(int image) {
        if (!in(image, 0, images.size() - 1)) {
            refuse(0);
            return false;
        }
        copy(images.get(image));
        return true;
    }

    int count(int what) {
        switch (what) {
            case 0: return law.rules.size();
            case 1: return dries.size();
            case 2: return finds.size();
            case 3: return Arrays.stream(buckets).sum();
            case 4: return places.size();
            case 5: return muds.size();
            case 6: return tape.length;
            case 7: return images.size();
            case 8: case 9: case 10: return refused[what - 8];
            case 11: return law.catching();
            case 12: case 13: case 14: return law.carrying(what - 12);
            case 15: return letters.size();
            default: return NONE;
        }
    }
}
