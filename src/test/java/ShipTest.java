/** Promises 24 (place), 25 (ship), 38 (doubt). */
public final class ShipTest {
    private ShipTest() {
    }

    public static void main(String[] args) {
        placing();
        oneWay();
        severalWays();
        changes();
        manyPlaces();
        doubting();
        Check.end("ShipTest");
    }

    private static void placing() {
        Land x = new Land();
        Check.due("CELL -1", x.place(-1), -1);
        Check.due("CELL 256", x.place(256), -1);
        for (int p = 0; p < 10; p++) {
            Check.due("place", x.place(255 - p), p);
        }
        Check.due("the eleventh", x.place(0), -1);
        Check.due("no room", x.count(9), 1);
        Check.due("one that is a PLACE", x.place(255), -1);
        Check.due("not as told", x.count(8), 3);
        Check.due("it is one", x.cell(246, 9), 1);
        Check.due("it is none", x.cell(245, 9), 0);
        Check.due("how many", x.count(4), 10);
    }

    private static void oneWay() {
        Land x = Check.under("catch 3;sea 50 99;");
        Check.due("no PLACES", x.ship(1, 0, 0), -1);
        x.place(5);
        // LEFT a half: 500000 and 500000 * 7 by 10
        Check.due("one BUCKET", x.ship(1, 0, 0), 150000);
        Check.due("laid there", x.ship(1, 0, 10), 1);
        // 500000 * 0.343 = 171500
        Check.due("three", x.ship(3, 0, 0), 328500);
        // 500000 * 0.117649 = 58824.5
        Check.due("six: cut once", x.ship(6, 0, 0), 500000 - 58824);
        Check.due("at sea", x.ship(6, 50, 0), 0);
        Check.due("n 0", x.ship(0, 0, 0), -1);
        Check.due("n 7", x.ship(7, 0, 0), -1);
        Check.due("AGE 100", x.ship(1, 100, 0), -1);
        Check.due("what 1", x.ship(1, 0, 1), -1);
        Check.due("what 9", x.ship(1, 0, 9), -1);
        Check.due("what 11", x.ship(1, 0, 11), -1);
        Check.due("what -1", x.ship(1, 0, -1), -1);
        x.dry(0, true);
        // LEFT 2 by 3: 666666, and 666666 * 7 by 10 is 466666.2
        Check.due("LEFT is cut too", x.ship(1, 0, 0), 1000000 - (333334 + 466666));
    }

    private static void severalWays() {
        Land x = Check.under("catch 10;");
        x.place(0);
        x.place(1);
        x.place(2);
        // a second one at a PLACE does nothing: one each is best
        Check.due("three: 1 - 1/8", x.ship(3, 0, 0), 875000);
        Check.due("one each", x.ship(3, 0, 10), 1);
        Check.due("one each", x.ship(3, 0, 11), 1);
        Check.due("one each", x.ship(3, 0, 12), 1);
        Check.due("two: in the first PLACES", x.ship(2, 0, 10), 1);
        Check.due("two: in the first PLACES", x.ship(2, 0, 11), 1);
        Check.due("two: in the first PLACES", x.ship(2, 0, 12), 0);
        Check.due("five: more in the first", x.ship(5, 0, 10), 3);
        Check.due("five: one", x.ship(5, 0, 11), 1);
        Check.due("five: one", x.ship(5, 0, 12), 1);
        Check.law(x, "catch 0;");
        Check.due("nothing to be had", x.ship(4, 0, 0), 0);
        Check.due("all in the first", x.ship(4, 0, 10), 4);
        Check.due("none in the last", x.ship(4, 0, 12), 0);
        Check.law(x, "catch 5;");
        // LEFT a half each: 750000, 625000, 562500
        Check.due("one and one: 1 - 0.5625", x.ship(2, 0, 0), 437500);
        Check.due("one and one", x.ship(2, 0, 11), 1);
        x.bucket(0, 3);
        // LEFT of PLACE 0 1 by 9
        Check.due("not where nothing was caught", x.ship(2, 0, 10), 0);
        Check.due("but there", x.ship(2, 0, 12), 1);
        x.bucket(1, 1);
        x.bucket(2, 1);
        x.bucket(2, 1);
        // 1/9: 111111; 1/3: 333333; 1/5: 200000. NOTHING with one: 944445, 833333, 900000; with two 750000 for PLACE 1
        Check.due("one at 1, one at 2: 749999", x.ship(2, 0, 0), 250001);
        Check.due("one at 1", x.ship(2, 0, 11), 1);
        Check.due("one at 2", x.ship(2, 0, 12), 1);
    }

    /** What was worked out for one question must not be answered after a change. */
    private static void changes() {
        Land x = Check.under("catch 10;sea 50 99;");
        x.place(0);
        Check.due("a half", x.ship(1, 0, 0), 500000);
        x.dry(0, true);
        Check.due("after dry", x.ship(1, 0, 0), 666666);
        Check.due("of two BUCKETS one PLACE", x.ship(2, 0, 0), 666666);
        x.place(1);
        // 333334 * 333334 by 1000000 is 111111.5
        Check.due("after place", x.ship(2, 0, 0), 888889);
        Check.due("another n", x.ship(1, 0, 0), 666666);
        x.image();
        x.bucket(0, 1);
        Check.due("after bucket", x.ship(2, 0, 10), 1);
        Check.due("after bucket", x.ship(2, 0, 0), 666666);
        x.restore(0);
        Check.due("after restore", x.ship(2, 0, 0), 888889);
        x.sound(1, 0, 0);
        // CELL 1 is at sea and CELL 0 at the coast: of KIND 2, of which nothing is known
        Check.due("after sound", x.ship(2, 0, 0), 500000);
        Check.due("another AGE", x.ship(2, 50, 0), 0);
        Check.due("another AGE", x.ship(2, 0, 0), 500000);
        Check.law(x, "catch 5;");
        Check.due("after law", x.ship(2, 0, 0), 375000);
    }

    private static void manyPlaces() {
        Land x = Check.under("catch 10;");
        for (int p = 0; p < 10; p++) {
            x.place(p);
        }
        Check.due("six of ten: 1 - 1/64", x.ship(6, 0, 0), 984375);
        for (int p = 0; p < 10; p++) {
            Check.due("the first six", x.ship(6, 0, 10 + p), p < 6 ? 1 : 0);
        }
    }

    private static void doubting() {
        Land x = Check.under("catch 1;sea 50 30;");
        Check.due("no PLACES", x.doubt(0), -1);
        x.place(3);
        x.place(4);
        Check.due("of several the first", x.doubt(0), 0);
        x.bucket(3, 1);
        Check.due("9 by 19 is less near", x.doubt(0), 1);
        x.bucket(4, 2);
        Check.due("81 by 181 is less near", x.doubt(0), 0);
        x.dry(0, true);
        // 18 by 28 and 162 by 262: the second is nearer now
        Check.due("from above", x.doubt(0), 1);
        Check.due("AGE 100", x.doubt(100), -1);
        Check.due("AGE -1", x.doubt(-1), -1);
        nearlyAlike();
    }

    /** Ratios whose cross products are too much for 64 bits. */
    private static void nearlyAlike() {
        Land x = Check.under("catch 1;sea 0 0;");
        for (int c = 0; c < 256; c++) {
            x.sound(c, 50, 50);
        }
        x.sound(0, 10, 20);
        x.sound(1, 10, 20);
        Check.due("KIND of CELL 0", x.asked(0, 0, 8), 8);
        Check.due("KIND of CELL 9", x.asked(200, 0, 8), 0);
        for (int i = 0; i < 40; i++) {
            x.dry(8, false);
            x.dry(0, false);
        }
        x.bucket(0, 8);
        x.bucket(200, 8);
        x.place(0);
        x.place(200);
        Check.due("1 by 42 each with 8 BUCKETS", x.left(0, 0, 1), 43046721L + 41L * 100000000);
        Check.due("alike: the first", x.doubt(0), 0);
        Land y = Check.under("catch 1;sea 0 0;");
        for (int c = 0; c < 256; c++) {
            y.sound(c, 50, 50);
        }
        y.sound(0, 10, 20);
        for (int i = 0; i < 40; i++) {
            y.dry(8, false);
            y.dry(0, i == 0);
        }
        y.bucket(0, 8);
        y.bucket(200, 8);
        y.place(0);
        y.place(200);
        Check.due("2 by 42 is nearer", y.doubt(0), 1);
    }
}
