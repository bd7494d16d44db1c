import java.util.Random;

/** The same calls, drawn by a fixed seed, on DrownedLand and on NaiveLand: each answer must be alike. */
public final class AgainstNaiveTest {
    private static final int RUNS = 240;

    /** A text of 700 bytes told and the counts behind it: what one go of the drawing may take at most. */
    private static final int DEAREST = 60;

    private final Random random;
    private final int run;
    private final Land x = new Land();
    private final NaiveLand y = new NaiveLand();
    private final int[] cells = new int[8];
    private final int[] ages = new int[5];

    private AgainstNaiveTest(int run) {
        this.run = run;
        random = new Random(1000L + run);
    }

    public static void main(String[] args) {
        for (int run = 0; run < RUNS; run++) {
            new AgainstNaiveTest(run).go();
        }
        faults();
        Check.end("AgainstNaiveTest");
    }

    /** Many texts that are nearly LAWs: the FAULT's place. */
    private static void faults() {
        Random random = new Random(77);
        for (int i = 0; i < 3000; i++) {
            RandomLaw laws = new RandomLaw(random);
            byte[] law = laws.make(random.nextInt(i % 50 == 0 ? 44 : 6), 700);
            byte[] text = random.nextInt(8) == 0 ? law : laws.spoil(law);
            Land x = new Land();
            NaiveLaw naive = new NaiveLaw(text);
            Check.feed(x, text);
            String told = "law of \"" + new String(text, java.nio.charset.StandardCharsets.ISO_8859_1) + "\"";
            Check.due(told, x.law(text.length), naive.fault == -1 ? naive.rules.size() : -1);
            Check.due(told + " fault", x.fault(), naive.fault);
        }
    }

    private int near(int least, int most) {
        int edge = random.nextInt(40);
        if (edge == 0) {
            return least - 1;
        }
        if (edge == 1) {
            return most + 1;
        }
        if (edge == 2) {
            return random.nextInt();
        }
        return edge == 3 ? least : edge == 4 ? most : least + random.nextInt(most - least + 1);
    }

    private int cell() {
        return random.nextInt(3) == 0 ? near(0, 255) : cells[random.nextInt(cells.length)];
    }

    private int age() {
        return random.nextInt(3) == 0 ? near(0, 99) : ages[random.nextInt(ages.length)];
    }

    private void go() {
        for (int i = 0; i < cells.length; i++) {
            cells[i] = random.nextInt(256);
        }
        for (int i = 0; i < ages.length; i++) {
            ages[i] = random.nextInt(100);
        }
        tellLaw(false);
        tellHeights(run % 5);
        while (x.callsLeft() > DEAREST) {
            if (random.nextInt(3) == 0) {
                tell();
            } else {
                ask();
            }
        }
        for (int what = -1; what <= 16; what++) {
            due("count " + what, x.count(what), y.count(what));
        }
    }

    private void due(String call, long got, long want) {
        Check.due("run " + run + " " + call, got, want);
    }

    private void tellLaw(boolean spoilt) {
        RandomLaw laws = new RandomLaw(random);
        byte[] text = laws.make(4 + random.nextInt(20), 640);
        if (spoilt) {
            text = laws.spoil(text);
        }
        byte[] whole = java.util.Arrays.copyOf(text, (text.length + 19) / 20 * 20);
        for (int i = 0; i < whole.length; i += 20) {
            int[] f = new int[5];
            for (int k = 0; k < 5; k++) {
                f[k] = Check.four(whole, i + 4 * k);
            }
            due("feed", x.feed(f[0], f[1], f[2], f[3], f[4]), y.feed(f));
        }
        int n = random.nextInt(20) == 0 ? near(0, text.length) : text.length;
        due("law " + n, x.law(n), y.law(n));
        due("fault", x.fault(), y.fault());
    }

    private void tellHeights(int way) {
        for (int c = 0; c < 256; c++) {
            int low = switch (way) {
                case 0 -> random.nextInt(100);
                case 1 -> Math.min(99, 3 * (c % 16) + 2 * (c / 16) + random.nextInt(10));
                case 2 -> random.nextInt(3) == 0 ? 60 + random.nextInt(30) : 20 + random.nextInt(20);
                case 3 -> Math.min(99, 4 * (Math.abs(c % 16 - 7) + Math.abs(c / 16 - 8)));
                default -> 0;
            };
            int high = Math.min(99, low + random.nextInt(12));
            // two of three CELLS, so that half of an object's 512 calls are left to draw
            if (random.nextInt(way == 4 ? 10 : 3) > (way == 4 ? 8 : 0)) {
                due("sound", x.sound(c, low, high) ? 1 : 0, y.sound(c, low, high) ? 1 : 0);
            }
        }
    }

    private void tell() {
        int c = cell();
        int a = age();
        int b = random.nextInt(4) == 0 ? age() : Math.min(99, a + random.nextInt(6));
        boolean yes = random.nextBoolean();
        switch (random.nextInt(24)) {
            case 0 -> {
                int low = near(0, 99);
                int high = random.nextInt(3) == 0 ? near(0, 99) : low + random.nextInt(20);
                due("sound", x.sound(c, low, high) ? 1 : 0, y.sound(c, low, high) ? 1 : 0);
            }
            case 1 -> {
                if (random.nextInt(3) == 0) {
                    tellLaw(random.nextBoolean());
                }
            }
            case 2 -> {
                int n = random.nextInt();
                due("feed", x.feed(n, n, n, n, n), y.feed(n, n, n, n, n));
            }
            case 3 -> due("image", x.image(), y.image());
            case 4 -> {
                int i = near(0, 2);
                due("restore " + i, x.restore(i) ? 1 : 0, y.restore(i) ? 1 : 0);
            }
            case 5, 6, 7, 8, 9 -> {
                int kind = near(0, 15);
                due("dry " + kind, x.dry(kind, yes), y.dry(kind, yes));
            }
            case 10, 11, 12 -> {
                int n = near(1, 8);
                due("bucket " + c, x.bucket(c, n), y.bucket(c, n));
            }
            case 13, 14, 15 -> {
                int how = near(0, 2);
                due("find", x.find(c, how, a, b), y.find(c, how, a, b));
            }
            case 16, 17 -> due("mud " + c, x.mud(c, yes), y.mud(c, yes));
            case 18, 19 -> due("place " + c, x.place(c), y.place(c));
            default -> {
                int h = near(0, 99);
                due("letter", x.letter(yes, h, a, b), y.letter(yes, h, a, b));
            }
        }
    }

    private void ask() {
        if (random.nextInt(3) == 0) {
            askGround();
        } else if (random.nextBoolean()) {
            askPeople();
        } else {
            askRest();
        }
    }

    private void askGround() {
        int c = cell();
        int a = age();
        switch (random.nextInt(8)) {
            case 0 -> {
                int w = near(0, 1);
                due("sea " + a + " " + w, x.sea(a, w), y.sea(a, w));
            }
            case 1, 2 -> {
                int w = near(0, 10);
                due("cell " + c + " " + w, x.cell(c, w), y.cell(c, w));
            }
            case 3, 4 -> {
                int w = near(0, 8);
                due("asked " + c + " " + a + " " + w, x.asked(c, a, w), y.asked(c, a, w));
            }
            case 5 -> due("shore " + a, x.shore(a), y.shore(a));
            case 6 -> {
                int most = near(1, 256);
                int w = near(0, 1);
                due("alone " + c + " " + most + " " + w, x.alone(c, most, w), y.alone(c, most, w));
            }
            default -> {
                int w = near(0, 1);
                due("ends " + c + " " + w, x.ends(c, w), y.ends(c, w));
            }
        }
    }

    private void askPeople() {
        int c = cell();
        int a = age();
        int b = random.nextInt(4) == 0 ? age() : Math.min(99, a + random.nextInt(6));
        int w = near(0, 1);
        switch (random.nextInt(11)) {
            case 0 -> due("lived " + c + " " + a + " " + b + " " + w, x.lived(c, a, b, w), y.lived(c, a, b, w));
            case 1 -> {
                int kind = near(0, 15);
                due("learnt " + kind + " " + w, x.learnt(kind, w), y.learnt(kind, w));
            }
            case 2 -> due("tried " + w, x.tried(w), y.tried(w));
            case 3 -> due("left " + c + " " + a + " " + w, x.left(c, a, w), y.left(c, a, w));
            case 4 -> {
                int f = near(0, 20);
                int what = near(0, 3);
                due("found " + f + " " + what, x.found(f, what), y.found(f, what));
                due("carried " + f + " " + w, x.carried(f, w), y.carried(f, w));
            }
            case 5 -> {
                int q = near(0, 3);
                due("lean " + q + " " + a, x.lean(q, a), y.lean(q, a));
            }
            case 6 -> {
                int q = near(0, 3);
                due("right " + q + " " + a + " " + w, x.right(q, a, w), y.right(q, a, w));
            }
            case 7 -> {
                int k = near(0, 255);
                due("ahead " + a + " " + k, x.ahead(a, k), y.ahead(a, k));
            }
            case 8 -> {
                int k = near(1, 256);
                due("held " + a + " " + k + " " + w, x.held(a, k, w), y.held(a, k, w));
            }
            case 9 -> {
                int seed = near(0, 999999999);
                int camps = near(1, 200);
                int buckets = near(0, 99);
                due("world", x.world(seed, a, camps, c, buckets), y.world(seed, a, camps, c, buckets));
            }
            default -> due("say " + c + " " + a, x.say(c, a), y.say(c, a));
        }
    }

    private void askRest() {
        int c = cell();
        int a = age();
        int high = near(1, 99);
        int drop = near(0, 20);
        switch (random.nextInt(11)) {
            case 0 -> due("gone", x.gone(c, a, high, drop), y.gone(c, a, high, drop));
            case 1 -> {
                int w = near(0, 2);
                due("rest " + a + " " + w, x.rest(a, high, drop, w), y.rest(a, high, drop, w));
            }
            case 2 -> {
                int w = near(0, 2);
                due("height " + a + " " + drop + " " + w, x.height(a, drop, w), y.height(a, drop, w));
            }
            case 3, 4 -> {
                int n = near(1, 6);
                for (int w = 9; w <= 20; w++) {
                    due("ship " + n + " " + a + " " + w, x.ship(n, a, w), y.ship(n, a, w));
                }
                due("ship " + n + " " + a + " 0", x.ship(n, a, 0), y.ship(n, a, 0));
            }
            case 5 -> {
                int line = random.nextBoolean() ? near(2, 8) : near(2, 99);
                int k = near(-1, 3);
                due("ford " + a + " " + line + " " + k, x.ford(a, line, k), y.ford(a, line, k));
            }
            case 6 -> {
                int w = near(0, 1);
                due("levels " + a + " " + w, x.levels(a, w), y.levels(a, w));
            }
            case 7 -> {
                int k = near(-1, 0);
                due("fits " + k, x.fits(k), y.fits(k));
            }
            case 8 -> due("unlike " + a, x.unlike(a), y.unlike(a));
            case 9 -> due("doubt " + a, x.doubt(a), y.doubt(a));
            default -> {
                int w = near(0, 15);
                due("count " + w, x.count(w), y.count(w));
            }
        }
    }
}
