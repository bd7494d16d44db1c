/**
 * Promises 11 (lived), 12 (dry), 13 (learnt), 14 (tried), 15 (bucket), 16 (left), 19 (carried), 26 (lean),
 * 27 (right), 28 (ahead), 29 (held), 30 (world), 31 (say), 37 (unlike).
 */
public final class PeopleTest {
    private PeopleTest() {
    }

    public static void main(String[] args) {
        living();
        livingByAges();
        learning();
        trying();
        leaving();
        carrying();
        leaning();
        puttingRight();
        tellingAhead();
        drawing();
        saying();
        unlikeness();
        Check.end("PeopleTest");
    }

    private static void living() {
        Land x = Check.under("sea 50 30;live 6 if x=0 and y=0;live 4 if x=1 and y=0;live 9 if x=2 and y=0;");
        x.sound(2, 0, 10);
        Check.due("upper, in lowest terms", x.lived(0, 50, 50, 0), 3);
        Check.due("lower: 10 with CELL 2 at sea", x.lived(0, 50, 50, 1), 5);
        Check.due("CELL 2 on LAND", x.lived(2, 49, 49, 0), 9);
        Check.due("lower", x.lived(2, 49, 49, 1), 19);
        Check.due("two AGES", x.lived(2, 49, 50, 0), 9);
        Check.due("two AGES: 19 and 10", x.lived(2, 49, 50, 1), 29);
        Check.due("all AGES", x.lived(2, 0, 99, 0), 9);
        Check.due("all AGES: 50 times 19 and 10", x.lived(2, 0, 99, 1), 29);
        Check.due("nobody there", x.lived(3, 0, 99, 0), 0);
        Check.due("0 by 1", x.lived(3, 0, 99, 1), 1);
        Check.due("from behind to", x.lived(0, 50, 49, 0), -1);
        Check.due("AGE 100", x.lived(0, 50, 100, 0), -1);
        Check.due("AGE -1", x.lived(0, -1, 50, 0), -1);
        Check.due("CELL 256", x.lived(256, 0, 0, 0), -1);
        Check.due("what 2", x.lived(0, 0, 0, 2), -1);
        Check.law(x, "live 0;");
        Check.due("nobody LIVED at all", x.lived(0, 0, 99, 1), -1);
    }

    /** Each sign at an AGE parts the AGES where the document says. */
    private static void livingByAges() {
        Land x = Check.under("live 1 if x=0 and y=0 and age<10;live 2 if x=1 and y=0 and age>89;live 4 if x=2 and y=0 and age=50;"
                + "live 1 if x=3 and y=0;");
        Check.due("ten AGES of a hundred and 34", x.lived(0, 0, 99, 1), 134 / 2);
        Check.due("upper", x.lived(0, 0, 99, 0), 5);
        Check.due("ten AGES with 2", x.lived(1, 0, 99, 0), 10);
        Check.due("lower", x.lived(1, 0, 99, 1), 67);
        Check.due("AGE 9", x.lived(0, 9, 9, 1), 2);
        Check.due("AGE 10", x.lived(0, 10, 10, 0), 0);
        Check.due("AGE 89", x.lived(1, 89, 89, 0), 0);
        Check.due("AGE 90", x.lived(1, 90, 90, 1), 3);
        Check.due("AGE 49", x.lived(2, 49, 49, 0), 0);
        Check.due("AGE 50", x.lived(2, 50, 50, 0), 4);
        Check.due("AGE 51", x.lived(2, 51, 51, 0), 0);
        Check.law(x, "live 3 if age=99;live 1 if age<9999;");
        Check.due("the last AGE", x.asked(0, 99, 5), 3);
        Check.due("of all", x.lived(0, 98, 99, 1), 256);
    }

    private static void learning() {
        Land x = new Land();
        Check.due("nothing known", x.learnt(0, 0), 1);
        Check.due("nothing known", x.learnt(15, 1), 2);
        Check.due("a DRY place", x.dry(15, true), 1);
        Check.due("another", x.dry(15, true), 2);
        Check.due("another", x.dry(0, false), 3);
        Check.due("as they are", x.learnt(15, 0), 3);
        Check.due("as they are", x.learnt(15, 1), 4);
        Check.due("without a CAMP", x.learnt(0, 0), 1);
        Check.due("without a CAMP", x.learnt(0, 1), 3);
        Check.due("KIND 16", x.learnt(16, 0), -1);
        Check.due("KIND -1", x.learnt(-1, 0), -1);
        Check.due("what 2", x.learnt(0, 2), -1);
        Check.due("dry KIND 16", x.dry(16, true), -1);
        Check.due("dry KIND -1", x.dry(-1, true), -1);
        Check.due("REFUSED", x.count(8), 2);
        for (int i = 4; i <= 80; i++) {
            Check.due("dry", x.dry(3, false), i);
        }
        Check.due("the 81st", x.dry(3, false), -1);
        Check.due("the 81st of no KIND", x.dry(16, false), -1);
        Check.due("no room", x.count(9), 1);
        Check.due("not as told", x.count(8), 3);
        Check.due("80 are there", x.count(1), 80);
    }

    private static void trying() {
        Land x = new Land();
        Check.due("without DRY places", x.tried(0), 0);
        Check.due("without DRY places", x.tried(1), 0);
        x.dry(2, true);
        Check.due("one: a half", x.tried(0), 500);
        x.dry(2, true);
        x.dry(2, false);
        // with a CAMP: 2 by 4 twice; without: 3 by 4
        Check.due("three of a KIND", x.tried(0), 500 + 500 + 750);
        x.dry(5, true);
        Check.due("one more of another", x.tried(0), 1750 + 500);
        // with a CAMP: 3 by 5 three times; without: 4 by 5
        Check.due("by all together", x.tried(1), 3 * 400 + 800);
        x.dry(5, false);
        x.dry(6, false);
        // with: 3 by 7 is 428; without: 4 by 7 is 571
        Check.due("cut", x.tried(1), 3 * (1000 - 428) + 3 * 571);
        Check.due("what 2", x.tried(2), -1);
        Check.due("what -1", x.tried(-1), -1);
    }

    private static void leaving() {
        Land x = Check.under("catch 3;sea 50 99;");
        Check.due("KIND of CELL 0", x.asked(0, 0, 8), 0);
        Check.due("a half", x.left(0, 0, 1), 2);
        x.dry(0, true);
        x.dry(0, true);
        Check.due("3 by 4", x.left(0, 0, 0), 3);
        Check.due("BUCKETS", x.bucket(0, 2), 2);
        // 3 * 49 by 3 * 49 and 100
        Check.due("upper", x.left(0, 0, 0), 147);
        Check.due("lower", x.left(0, 0, 1), 247);
        Check.due("at sea", x.left(0, 50, 0), 0);
        Check.due("at sea", x.left(0, 50, 1), 1);
        Check.due("six more", x.bucket(0, 6), 8);
        // 3 * 7^8 = 17294403 and 10^8
        Check.due("eight", x.left(0, 0, 0), 17294403);
        Check.due("eight", x.left(0, 0, 1), 117294403);
        Check.due("one more", x.bucket(0, 1), -1);
        Check.due("no room", x.count(9), 1);
        Check.due("none laid", x.bucket(1, 0), -1);
        Check.due("nine", x.bucket(1, 9), -1);
        Check.due("CELL 256", x.bucket(256, 1), -1);
        Check.due("CELL -1", x.bucket(-1, 1), -1);
        Check.due("not as told", x.count(8), 4);
        Check.due("of a CELL", x.cell(0, 8), 8);
        Check.due("in all", x.count(3), 8);
        Check.law(x, "catch 10;");
        Check.due("a sure catch", x.left(0, 0, 0), 0);
        Check.due("a sure catch", x.left(0, 0, 1), 1);
        Check.due("a sure catch elsewhere", x.left(1, 0, 1), 4);
        Check.law(x, "");
        Check.due("no catch", x.left(0, 0, 0), 3);
        Check.due("CELL 256", x.left(256, 0, 0), -1);
        Check.due("AGE 100", x.left(0, 100, 0), -1);
        Check.due("what 2", x.left(0, 0, 2), -1);
        for (int i = 0; i < 78; i++) {
            x.dry(0, false);
        }
        x.law(0);
        Check.law(x, "catch 1;");
        // 3 * 9^8 by that and 79 * 10^8, without a common part but 3 * 9^8's own
        Check.due("above 32 bits", x.left(0, 0, 1), 3L * 43046721 + 79L * 100000000);
    }

    private static void carrying() {
        Land x = Check.under("carry fished 100;carry cored 20;carry fished 25;live 3 if x=0 and y=0;live 5 if x=1 and y=0 and age=7;");
        x.find(0, 0, 6, 7);
        x.find(0, 1, 7, 7);
        x.find(0, 2, 7, 7);
        x.find(9, 0, 7, 7);
        x.find(9, 2, 7, 7);
        // 25 * 11 = 275 by 275 and 75 * 256 * 6 = 115200: both by 25
        Check.due("fished", x.carried(0, 0), 11);
        Check.due("fished", x.carried(0, 1), 11 + 4608);
        // 20 * 8 = 160 by 160 and 80 * 256 * 3 = 61440: both by 160
        Check.due("cored", x.carried(1, 0), 1);
        Check.due("cored", x.carried(1, 1), 385);
        Check.due("grabbed: 0", x.carried(2, 0), 0);
        Check.due("grabbed: by 1", x.carried(2, 1), 1);
        Check.due("nobody LIVED there", x.carried(3, 0), 1);
        Check.due("nobody LIVED there", x.carried(3, 1), 1);
        Check.due("both 0", x.carried(4, 0), 0);
        Check.due("both 0", x.carried(4, 1), 1);
        Check.due("no such FIND", x.carried(5, 0), -1);
        Check.due("no such FIND", x.carried(-1, 0), -1);
        Check.due("what 2", x.carried(0, 2), -1);
        Check.law(x, "carry fished 50;live 1;");
        Check.due("all alike: as near as far", x.carried(0, 0), 1);
        Check.due("all alike: as near as far", x.carried(0, 1), 2);
        Check.law(x, "carry fished 100;");
        Check.due("nobody at all", x.carried(0, 0), 0);
        Check.due("nobody at all", x.carried(0, 1), 1);
    }

    private static void leaning() {
        Land x = Check.under("sea 50 99;fish 3 if x=7 and y=7;fish 5 if x=8 and y=7;fish 7 if x=7 and y=8;fish 11 if x=8 and y=8;"
                + "fish 1 if age=50 and coast=0 and x=0;");
        Check.due("QUARTER 0", x.lean(0, 0), 3);
        Check.due("QUARTER 1", x.lean(1, 0), 5);
        Check.due("QUARTER 2", x.lean(2, 0), 7);
        Check.due("QUARTER 3", x.lean(3, 0), 11);
        Check.due("at sea too", x.lean(0, 50), 3 + 8);
        Check.due("QUARTER 4", x.lean(4, 0), -1);
        Check.due("QUARTER -1", x.lean(-1, 0), -1);
        Check.due("AGE 100", x.lean(0, 100), -1);
    }

    private static void puttingRight() {
        Land x = Check.under("fish 1 if x<8;fish 2 if y<8;");
        Check.due("no FINDS", x.right(0, 0, 0), -1);
        x.find(0, 1, 0, 0);
        Check.due("no FINDS fished", x.right(0, 0, 0), -1);
        x.find(0, 0, 0, 0);
        x.find(8, 0, 90, 90);
        x.find(9, 0, 90, 90);
        x.find(255, 0, 90, 90);
        // LEAN 64, 128, 64, 0, in all 256; FINDS 1, 2, 0, 1 of 4
        Check.due("1 * 256 by 64 * 4", x.right(0, 0, 0), 1);
        Check.due("1 * 256 by 64 * 4", x.right(0, 0, 1), 1);
        Check.due("2 * 256 by 128 * 4", x.right(1, 0, 1), 1);
        Check.due("0 by 1", x.right(2, 0, 0), 0);
        Check.due("0 by 1", x.right(2, 0, 1), 1);
        Check.due("LEAN 0", x.right(3, 0, 0), -1);
        x.find(8, 0, 90, 90);
        // 3 * 256 by 128 * 5
        Check.due("upper", x.right(1, 0, 0), 6);
        Check.due("lower", x.right(1, 0, 1), 5);
        Check.due("QUARTER 4", x.right(4, 0, 0), -1);
        Check.due("AGE -1", x.right(0, -1, 0), -1);
        Check.due("what 2", x.right(0, 0, 2), -1);
    }

    private static void tellingAhead() {
        Land x = Check.under("sea 50 20;live 99 if x=5 and y=5;live 8 if x=3;live 2 if x=2 and y=9;");
        x.sound(85, 10, 20);
        Check.due("the most first", x.ahead(0, 0), 85);
        Check.due("then by numbers", x.ahead(0, 1), 3);
        Check.due("then by numbers", x.ahead(0, 16), 243);
        Check.due("then the lesser", x.ahead(0, 17), 146);
        Check.due("then those without", x.ahead(0, 18), 0);
        Check.due("the last", x.ahead(0, 255), 255);
        Check.due("at sea it has none", x.ahead(50, 0), 3);
        Check.due("at sea it has none", x.ahead(50, 17), 0);
        Check.due("and stands by its number", x.ahead(50, 96), 85);
        Check.due("k 256", x.ahead(0, 256), -1);
        Check.due("k -1", x.ahead(0, -1), -1);
        Check.due("AGE 100", x.ahead(100, 0), -1);
        x.find(85, 0, 0, 0);
        x.find(85, 1, 99, 99);
        x.find(3, 2, 5, 5);
        x.find(255, 2, 5, 5);
        Check.due("in the first", x.held(0, 1, 0), 2);
        Check.due("in two", x.held(0, 2, 0), 3);
        Check.due("in 255", x.held(0, 255, 0), 3);
        Check.due("in 256", x.held(0, 256, 0), 4);
        Check.due("all", x.held(0, 1, 1), 4);
        Check.due("at AGE 50", x.held(50, 1, 0), 1);
        Check.due("k 0", x.held(0, 0, 0), -1);
        Check.due("k 257", x.held(0, 257, 0), -1);
        Check.due("what 2", x.held(0, 1, 2), -1);
        Check.due("AGE -1", x.held(-1, 1, 0), -1);
    }

    /** The draws once more, told by hand for one CELL with all LIVE and a KEEP of 50, a catch of 5. */
    private static void drawing() {
        Land x = Check.under("sea 50 99;live 1 if x=1 and y=0;live 3 if x=4 and y=2;keep 50;catch 5;");
        for (int seed = 0; seed < 40; seed++) {
            for (int camps = 1; camps <= 3; camps++) {
                Check.due("CELL 36", x.world(seed, 0, camps, 36, 20), hits(seed, camps, false));
                Check.due("CELL 1", x.world(seed, 0, camps, 1, 20), hits(seed, camps, true));
            }
        }
        for (int seed = 0; seed < 20; seed++) {
            long z = seed * 6364136223846793005L + 1442695040888963407L;
            z = z * 6364136223846793005L + 1442695040888963407L;
            int drawn = (int) ((z >>> 33) % 100);
            Land y = Check.under("live 1 if x=1 and y=0;catch 10;keep " + drawn + ";");
            Check.due("KEEP as much as is drawn", y.world(seed, 0, 1, 1, 9), 0);
            Check.law(y, "live 1 if x=1 and y=0;catch 10;keep " + (drawn + 1) + ";");
            Check.due("KEEP one more", y.world(seed, 0, 1, 1, 9), 9);
        }
        Check.due("a CELL without LIVE", x.world(7, 0, 200, 2, 99), 0);
        Check.due("no BUCKETS", x.world(7, 0, 200, 36, 0), 0);
        Check.due("many CAMPS: the draws modulo 10", x.world(999999999, 0, 200, 36, 99), hits(999999999, 200, false, 99));
        Check.due("no LIVE at all", x.world(7, 50, 200, 36, 0), -1);
        Check.due("seed -1", x.world(-1, 0, 1, 0, 0), -1);
        Check.due("seed 1000000000", x.world(1000000000, 0, 1, 0, 0), -1);
        Check.due("CAMPS 0", x.world(0, 0, 0, 0, 0), -1);
        Check.due("CAMPS 201", x.world(0, 0, 201, 0, 0), -1);
        Check.due("BUCKETS -1", x.world(0, 0, 1, 0, -1), -1);
        Check.due("BUCKETS 100", x.world(0, 0, 1, 0, 100), -1);
        Check.due("CELL -1", x.world(0, 0, 1, -1, 0), -1);
        Check.due("AGE 100", x.world(0, 100, 1, 0, 0), -1);
    }

    private static int hits(long seed, int camps, boolean first) {
        return hits(seed, camps, first, 20);
    }

    private static int hits(long seed, int camps, boolean first, int buckets) {
        long z = seed;
        boolean kept = false;
        for (int i = 0; i < camps; i++) {
            z = z * 6364136223846793005L + 1442695040888963407L;
            boolean there = (z >>> 33) % 4 < 1 == first;
            z = z * 6364136223846793005L + 1442695040888963407L;
            kept |= there && (z >>> 33) % 100 < 50;
        }
        int hits = 0;
        for (int i = 0; i < buckets; i++) {
            z = z * 6364136223846793005L + 1442695040888963407L;
            hits += kept && (z >>> 33) % 10 < 5 ? 1 : 0;
        }
        return hits;
    }

    private static void saying() {
        Land x = Check.under("sea 50 99;catch 5;");
        Check.due("LEFT is a half", x.say(0, 10), 1);
        x.bucket(0, 1);
        Check.due("LEFT is less", x.say(0, 10), 0);
        x.find(0, 0, 10, 20);
        Check.due("fished", x.say(0, 10), 2);
        Check.due("fished", x.say(0, 20), 2);
        Check.due("ahead of its AGES", x.say(0, 9), 0);
        Check.due("behind its AGES", x.say(0, 21), 0);
        Check.due("another CELL", x.say(1, 10), 1);
        x.find(0, 2, 15, 15);
        Check.due("grabbed", x.say(0, 15), 3);
        Check.due("not then", x.say(0, 16), 2);
        x.find(1, 1, 0, 99);
        x.find(1, 0, 0, 99);
        Check.due("cored goes ahead of fished", x.say(1, 5), 3);
        Check.due("at sea, in spite of a FIND", x.say(1, 60), -1);
        Check.due("CELL 256", x.say(256, 0), -2);
        Check.due("CELL -1", x.say(-1, 0), -2);
        Check.due("AGE 100", x.say(0, 100), -2);
    }

    private static void unlikeness() {
        Land x = Check.under("sea 50 30;sea 60 99;");
        Check.due("no DRY places", x.unlike(0), -1);
        x.dry(0, true);
        Check.due("all of one KIND", x.unlike(0), 0);
        x.dry(15, true);
        x.dry(15, false);
        // DRY 333 of KIND 0, 666 of 15; LAND 1000 of KIND 0
        Check.due("cut", x.unlike(0), 667 + 666);
        Check.due("lower LAND: KIND 8", x.unlike(50), 1000 + 333 + 666);
        Check.due("no LAND", x.unlike(60), -1);
        Check.due("AGE 100", x.unlike(100), -1);
        Check.due("AGE -1", x.unlike(-1), -1);
        x.sound(0, 10, 10);
        // CELL 0 at sea; 1, 16 and 2, 17, 32 nearer than 3 steps: 5 of 255 are 19, 250 are 980
        Check.due("only LAND is counted", x.unlike(50), 19 + 980 + 333 + 666);
    }
}
