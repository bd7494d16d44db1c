import com.sun.management.ThreadMXBean;
import java.lang.management.ManagementFactory;

/**
 * All calls of one run live in one room of some 600,000 objects and arrays and 7.3 million fields and elements. Each
 * object takes 8 bytes and each element one at the least, so a quarter of a million bytes is far within it: rows are
 * made in constructors and used again. Each call is asked for as often as an object may be: 512 times.
 */
public final class RoomTest {
    private static final long MOST_BYTES = 250000;
    private static final int MOST_CALLS = 512;
    private static final String LAW = "sea 0 20;sea 50 30 to 40;live 3 if age>10 and wind<9;live 1;fish 2 if x>3;keep 60;"
            + "catch 5;carry fished 50;sink 3 if y>8;";

    private RoomTest() {
    }

    /** One of the calls, by its number. */
    private interface Asked {
        long of(DrownedLand x, int i);
    }

    public static void main(String[] args) {
        told("sound", (x, i) -> x.sound(i % 256, i % 50, 50 + i % 50) ? 1 : 0);
        told("feed and law", (x, i) -> i % 2 == 0 ? x.feed(0x63617463, 0x68203b3b, 0, 0, 0) : x.law(20));
        told("dry", (x, i) -> x.dry(i % 16, i % 3 == 0));
        told("bucket", (x, i) -> x.bucket(i % 256, 1));
        told("find", (x, i) -> x.find(i % 256, i % 3, 0, 99));
        told("mud", (x, i) -> x.mud(i % 256, i % 2 == 0));
        told("place", (x, i) -> x.place(i % 256));
        told("letter", (x, i) -> x.letter(i % 2 == 0, i % 100, 0, 99));
        told("image", (x, i) -> x.image());
        told("restore", (x, i) -> i == 0 ? x.image() : x.restore(0) ? 1 : 0);
        asked("cell", (x, i) -> x.cell(i % 256, i % 11));
        asked("asked", (x, i) -> x.asked(i % 256, i % 100, i % 9));
        asked("shore", (x, i) -> x.shore(i % 100));
        asked("alone", (x, i) -> x.alone(i % 256, 256, 0));
        asked("lived", (x, i) -> x.lived(i % 256, 0, 99, 0));
        asked("tried and learnt", (x, i) -> x.tried(i % 2) + x.learnt(i % 16, 0));
        asked("left", (x, i) -> x.left(i % 256, i % 100, 1));
        asked("carried and found", (x, i) -> x.carried(i % 3, 1) + x.found(i % 3, 0));
        asked("gone", (x, i) -> x.gone(i % 256, i % 100, 50, 2));
        asked("rest", (x, i) -> x.rest(i % 100, 30, 1, 1));
        asked("height", (x, i) -> x.height(i % 100, 1, 0));
        asked("ship", (x, i) -> x.ship(1 + i % 6, i % 100, 0));
        asked("lean and right", (x, i) -> x.lean(i % 4, i % 100) + x.right(i % 4, i % 100, 1));
        asked("ahead and held", (x, i) -> x.ahead(i % 100, i % 256) + x.held(i % 100, 99, 0));
        asked("world", (x, i) -> x.world(i, i % 100, 200, i % 256, 99));
        asked("say", (x, i) -> x.say(i % 256, i % 100));
        asked("ford and ends", (x, i) -> x.ford(i % 100, 2, -1) + x.ends(i % 256, 1));
        asked("levels and fits", (x, i) -> x.levels(i % 100, 0) + x.fits(-1));
        asked("unlike and doubt", (x, i) -> x.unlike(i % 100) + x.doubt(i % 100));
        asked("count, sea and fault", (x, i) -> x.count(i % 16) + x.sea(i % 100, 1) + x.fault());
        Check.end("RoomTest");
    }

    /** A call that tells something, on a new object. */
    private static void told(String name, Asked call) {
        measure(name, call, false);
    }

    /** A call that only asks, on an object with some of all that can be told. */
    private static void asked(String name, Asked call) {
        measure(name, call, true);
    }

    private static void measure(String name, Asked call, boolean fill) {
        int[][] law = feeds();
        ThreadMXBean threads = (ThreadMXBean) ManagementFactory.getThreadMXBean();
        long thread = Thread.currentThread().getId();
        threads.getThreadAllocatedBytes(thread);
        long before = threads.getThreadAllocatedBytes(thread);
        DrownedLand x = new DrownedLand();
        if (fill) {
            fill(x, law);
        }
        long sum = 0;
        for (int i = 0; i < MOST_CALLS; i++) {
            sum += call.of(x, i);
        }
        long made = threads.getThreadAllocatedBytes(thread) - before;
        Check.due(name + ": " + made + " bytes are too many (answers together: " + sum + ")", made < MOST_BYTES, true);
        Check.due(name + ": bytes are measured", made > 0, true);
    }

    private static int[][] feeds() {
        byte[] text = Check.filled(Check.bytes(LAW));
        int[][] all = new int[text.length / 20][5];
        for (int i = 0; i < text.length; i += 4) {
            all[i / 20][i / 4 % 5] = Check.four(text, i);
        }
        return all;
    }

    private static void fill(DrownedLand x, int[][] law) {
        for (int[] f : law) {
            x.feed(f[0], f[1], f[2], f[3], f[4]);
        }
        Check.due("RULES", x.law(LAW.length()), 9);
        for (int i = 0; i < 10; i++) {
            x.sound(20 * i, 5 * i, 50 + i);
            x.dry(i, i % 2 == 0);
            x.bucket(20 * i, 1);
            x.find(20 * i, i % 3, 10 * i, 99);
            x.mud(20 * i + 1, i % 2 == 0);
            x.place(20 * i);
            x.letter(i % 2 == 0, 40, 10 * i, 99);
        }
    }
}
