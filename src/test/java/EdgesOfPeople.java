import java.math.BigInteger;

/** The edges of LIVE, DRY places, BUCKETS, FINDS, fishers and WORLDS: Terms 2 and 3, promises 11 to 19, 26 to 31 and 37. */
final class EdgesOfPeople {
    private static final String ALL_AT_SEA = "sea 0 49 to 50;";

    private EdgesOfPeople() {
    }

    static void tryAll() {
        livedByAges();
        livedOnLand();
        livedWrongly();
        agesAsked();
        dry();
        dryFull();
        learnt();
        triedByKinds();
        triedTogether();
        kindByRiver();
        kindByCoast();
        kindByWind();
        kindByHeight();
        buckets();
        prior();
        left();
        leftOfMany();
        finding();
        findsFull();
        found();
        carriedByCarry();
        carriedByAges();
        carriedBySea();
        carriedOfNobody();
        leaning();
        right();
        rightByQuarters();
        ahead();
        held();
        worldDraws();
        worldKept();
        worldHits();
        worldOfMany();
        worldWrongly();
        say();
        sayByLeft();
        unlike();
        unlikeCut();
    }

    private static void ratio(String call, long upper, long lower, long dueUpper, long dueLower) {
        Edge.due(call + ", upper", upper, dueUpper);
        Edge.due(call + ", lower", lower, dueLower);
    }

    private static void lived(Land x, int cell, int from, int to, long upper, long lower) {
        ratio("lived(" + cell + ", " + from + ", " + to + ")", x.lived(cell, from, to, 0), x.lived(cell, from, to, 1), upper, lower);
    }

    private static void livedByAges() {
        Edge.terms(2, "LIVED in a CELL in AGES from one to another: LIVE of LAND there in all of them together, by that of all CELLS.");
        Land x = Check.under("live 1 if x=0 and y=0 and age=50;live 1 if x=1 and y=0 and age>48 and age<52;");
        lived(x, 0, 50, 50, 1, 2);
        lived(x, 0, 49, 50, 1, 3);
        lived(x, 0, 50, 51, 1, 3);
        lived(x, 0, 49, 51, 1, 4);
        lived(x, 0, 0, 99, 1, 4);
        lived(x, 1, 0, 99, 3, 4);
        lived(x, 0, 49, 49, 0, 1);
        lived(x, 1, 49, 49, 1, 1);
        lived(x, 1, 51, 51, 1, 1);
        lived(x, 1, 48, 49, 1, 1);
        lived(x, 2, 49, 51, 0, 1);
        Edge.promise(11, "NONE: none such, nobody LIVED at all.");
        lived(x, 0, 48, 48, -1, -1);
        lived(x, 1, 0, 48, -1, -1);
        lived(x, 1, 52, 52, -1, -1);
        lived(x, 1, 52, 99, -1, -1);
        lived(x, 1, 51, 99, 1, 1);
        lived(new Land(), 0, 0, 99, -1, -1);
    }

    private static void livedOnLand() {
        Edge.terms(2, "LIVED in a CELL in AGES from one to another: LIVE of LAND there in all of them together, by that of all CELLS.");
        Land x = Check.under("sea 50 10;live 1 if x<2 and y=0;");
        x.sound(0, 10, 10);
        lived(x, 0, 49, 49, 1, 2);
        lived(x, 0, 50, 50, 0, 1);
        lived(x, 1, 50, 50, 1, 1);
        lived(x, 0, 49, 50, 1, 3);
        x.sound(0, 10, 11);
        lived(x, 0, 50, 50, 1, 2);
        x.sound(0, 10, 10);
        x.sound(1, 10, 10);
        lived(x, 0, 50, 50, -1, -1);
        lived(x, 0, 49, 50, 1, 2);
        x = Check.under("live 99;");
        Edge.promise(11, "LIVED: the upper number (what 0), the lower one (1), in lowest terms.");
        lived(x, 255, 0, 99, 1, 256);
        x = Check.under("live 99 if x=0;live 98 if x=1;");
        lived(x, 0, 0, 99, 99, 99 * 16 + 98 * 16);
        lived(x, 1, 7, 7, 49, 8 * (99 + 98));
    }

    private static void livedWrongly() {
        Edge.promise(11, "NONE: none such, nobody LIVED at all.");
        Land x = Check.under("live 1;");
        for (int what = 0; what <= 1; what++) {
            int due = what == 0 ? 1 : 256;
            Edge.due("lived(-1, 0, 0, " + what + ")", x.lived(-1, 0, 0, what), -1);
            Edge.due("lived(0, 0, 0, " + what + ")", x.lived(0, 0, 0, what), due);
            Edge.due("lived(255, 0, 0, " + what + ")", x.lived(255, 0, 0, what), due);
            Edge.due("lived(256, 0, 0, " + what + ")", x.lived(256, 0, 0, what), -1);
            Edge.due("lived(0, -1, 0, " + what + ")", x.lived(0, -1, 0, what), -1);
            Edge.due("lived(0, 0, 99, " + what + ")", x.lived(0, 0, 99, what), due);
            Edge.due("lived(0, 0, 100, " + what + ")", x.lived(0, 0, 100, what), -1);
            Edge.due("lived(0, 99, 99, " + what + ")", x.lived(0, 99, 99, what), due);
            Edge.due("lived(0, 100, 100, " + what + ")", x.lived(0, 100, 100, what), -1);
            Edge.due("lived(0, 50, 49, " + what + ")", x.lived(0, 50, 49, what), -1);
            Edge.due("lived(0, 50, 50, " + what + ")", x.lived(0, 50, 50, what), due);
            Edge.due("lived(0, 50, 51, " + what + ")", x.lived(0, 50, 51, what), due);
        }
        Edge.due("lived(0, 0, 0, -1)", x.lived(0, 0, 0, -1), -1);
        Edge.due("lived(0, 0, 0, 2)", x.lived(0, 0, 0, 2), -1);
    }

    /** Each sign beside AGES 0 and 99: all that hangs on LIVE tells the same AGES apart. */
    private static void agesAsked() {
        Edge.terms(1, "LIVE, FISH, KEEP of a CELL at an AGE: N of the first that holds (asked all), else 0, 0, 100.");
        for (int value : new int[] {0, 1, 2, 50, 98, 99, 100, 9999}) {
            for (char sign : new char[] {'<', '=', '>'}) {
                String condition = "age" + sign + value;
                Land x = Check.under("live 7 if " + condition + " and x=3 and y=0;carry fished 100;");
                for (int age : new int[] {0, 1, 2, 3, 49, 50, 51, 97, 98, 99}) {
                    boolean holds = sign == '<' ? age < value : sign == '>' ? age > value : age == value;
                    String at = "live if " + condition + " at AGE " + age;
                    int find = x.find(3, 0, age, age);
                    Edge.due(at + ", asked", x.asked(3, age, 5), holds ? 7 : 0);
                    Edge.due(at + ", LIVED", x.lived(3, age, age, 0), holds ? 1 : -1);
                    Edge.due(at + ", CARRIED", x.carried(find, 0), holds ? 1 : 0);
                    Edge.due(at + ", AHEAD", x.ahead(age, 0), holds ? 3 : 0);
                    Edge.due(at + ", HELD", x.held(age, 1, 0), holds ? find + 1 : 0);
                    Edge.due(at + ", WORLD", x.world(5, age, 1, 3, 0), holds ? 0 : -1);
                }
            }
        }
    }

    private static void dry() {
        Edge.promise(12, "A DRY place: how many there are. NONE, doing nothing but REFUSED: no such KIND, 80 are there.");
        Land x = new Land();
        Edge.due("dry(-1, true)", x.dry(-1, true), -1);
        Edge.due("DRY places", x.count(1), 0);
        Edge.due("dry(0, true)", x.dry(0, true), 1);
        Edge.due("dry(15, false)", x.dry(15, false), 2);
        Edge.due("dry(16, true)", x.dry(16, true), -1);
        Edge.due("dry(16, false)", x.dry(16, false), -1);
        Edge.due("DRY places", x.count(1), 2);
        Edge.due("REFUSED not as told", x.count(8), 3);
        Edge.due("REFUSED for room", x.count(9), 0);
    }

    private static void dryFull() {
        Edge.terms(2, "DRY places, up to 80: each a KIND 0 to 15 and with a CAMP or not.");
        Land x = new Land();
        for (int i = 1; i <= 79; i++) {
            Edge.due("dry, the " + i + "th", x.dry(i % 16, i % 2 == 0), i);
        }
        Edge.due("the 80th", x.dry(3, true), 80);
        Edge.due("LEARNT of its KIND", x.learnt(3, 1), 8);
        Edge.due("the 81st", x.dry(3, true), -1);
        Edge.due("the 81st of another KIND", x.dry(15, false), -1);
        Edge.due("DRY places", x.count(1), 80);
        Edge.due("REFUSED for room", x.count(9), 2);
        Edge.due("REFUSED not as told", x.count(8), 0);
        Edge.due("the 81st of no KIND", x.dry(16, true), -1);
        Edge.due("REFUSED not as told", x.count(8), 1);
        Edge.due("REFUSED for room", x.count(9), 2);
        Edge.due("LEARNT of KIND 3", x.learnt(3, 1), 8);
    }

    private static void learnt() {
        Edge.terms(2, "LEARNT of a KIND: CAMPS of it and 1 by all of it and 2.");
        Land x = new Land();
        ratio("without DRY places", x.learnt(7, 0), x.learnt(7, 1), 1, 2);
        x.dry(7, false);
        ratio("one without a CAMP", x.learnt(7, 0), x.learnt(7, 1), 1, 3);
        x.dry(7, true);
        Edge.promise(13, "LEARNT: the upper number (what 0), the lower one (1), as they are.");
        ratio("one of each", x.learnt(7, 0), x.learnt(7, 1), 2, 4);
        ratio("a KIND beside it", x.learnt(6, 0), x.learnt(6, 1), 1, 2);
        ratio("a KIND beside it", x.learnt(8, 0), x.learnt(8, 1), 1, 2);
        for (int i = 0; i < 78; i++) {
            x.dry(7, true);
        }
        ratio("80 of a KIND", x.learnt(7, 0), x.learnt(7, 1), 80, 82);
        Edge.promise(13, "NONE: none such.");
        for (int what = 0; what <= 1; what++) {
            Edge.due("learnt(-1, " + what + ")", x.learnt(-1, what), -1);
            Edge.due("learnt(0, " + what + ")", x.learnt(0, what), 1 + what);
            Edge.due("learnt(15, " + what + ")", x.learnt(15, what), 1 + what);
            Edge.due("learnt(16, " + what + ")", x.learnt(16, what), -1);
        }
        Edge.due("learnt(7, -1)", x.learnt(7, -1), -1);
        Edge.due("learnt(7, 2)", x.learnt(7, 2), -1);
    }

    /** TRIED by KINDS and by all together, with so many DRY places of KIND 3 with a CAMP and without. */
    private static void tried(int camps, int without, int due) {
        Land x = new Land();
        for (int i = 0; i < camps + without; i++) {
            x.dry(3, i < camps);
        }
        Edge.due("tried(0) with " + camps + " CAMPS and " + without + " without", x.tried(0), due);
        Edge.due("tried(1) with " + camps + " CAMPS and " + without + " without", x.tried(1), due);
    }

    private static void triedByKinds() {
        Edge.terms(2, "TRIED: for each DRY place by how much LEARNT of its KIND without itself, in thousandths (cut), "
                + "is off (from 1,000 with a CAMP, 0 without), together;");
        tried(0, 0, 0);
        tried(1, 0, 500);
        tried(0, 1, 500);
        tried(2, 0, 2 * (1000 - 666));
        tried(0, 2, 2 * 333);
        tried(1, 1, 1000 - 333 + 666);
        // 5 by 8 is 625, 6 by 8 is 750: nothing to cut; 2 by 7 is 285, 3 by 7 is 428
        tried(5, 2, 5 * (1000 - 625) + 2 * 750);
        tried(2, 4, 2 * (1000 - 285) + 4 * 428);
        tried(80, 0, 80 * (1000 - 987));
        tried(0, 80, 80 * 12);
        tried(79, 1, 79 * (1000 - 975) + 987);
    }

    private static void triedTogether() {
        Edge.terms(2, "likewise by all KINDS together (CAMPS and 1 by all and 2, without itself).");
        Land x = new Land();
        x.dry(3, true);
        x.dry(4, false);
        Edge.due("tried(0)", x.tried(0), 500 + 500);
        Edge.due("tried(1)", x.tried(1), 667 + 666);
        x.dry(15, true);
        Edge.due("tried(0)", x.tried(0), 500 + 500 + 500);
        // with a CAMP: 2 by 4; without: 3 by 4
        Edge.due("tried(1)", x.tried(1), 500 + 500 + 750);
        Edge.promise(14, "TRIED: by KINDS (what 0), by all together (1). NONE: none such.");
        Edge.due("tried(-1)", x.tried(-1), -1);
        Edge.due("tried(0)", x.tried(0), 1500);
        Edge.due("tried(1)", x.tried(1), 1750);
        Edge.due("tried(2)", x.tried(2), -1);
    }

    private static void middle(Land x, int cell, int middle) {
        x.sound(cell, middle / 2, middle - middle / 2);
    }

    private static void kindByRiver() {
        Edge.terms(2, "KIND of a CELL at an AGE: river above 9 (1), coast below 3 (2), wind above 3 (4), height below 20 (8), together.");
        // all eight ROUND CELL 100 are higher, so its KIND has the 4
        Land x = new Land();
        middle(x, 100, 80);
        middle(x, 84, 90);
        middle(x, 99, 90);
        Edge.due("river", x.cell(100, 4), 10);
        Edge.due("KIND with a river of 10", x.asked(100, 0, 8), 1 + 4);
        middle(x, 97, 80);
        Edge.due("river", x.cell(100, 4), 9);
        Edge.due("KIND with a river of 9", x.asked(100, 0, 8), 4);
        middle(x, 97, 99);
        middle(x, 99, 99);
        middle(x, 116, 90);
        Edge.due("river", x.cell(100, 4), 11);
        Edge.due("KIND with a river of 11", x.asked(100, 0, 8), 1 + 4);
    }

    private static void kindByCoast() {
        Edge.terms(2, "KIND of a CELL at an AGE: river above 9 (1), coast below 3 (2), wind above 3 (4), height below 20 (8), together.");
        Land x = Check.under("sea 0 10;");
        x.sound(0, 0, 0);
        int[] at = {1, 2, 17, 3, 18, 4, 255};
        int[] due = {2, 2, 2, 0, 0, 0, 0};
        for (int i = 0; i < at.length; i++) {
            Edge.due("KIND with a coast of " + x.asked(at[i], 0, 2), x.asked(at[i], 0, 8), due[i]);
        }
        Edge.due("KIND at sea: coast 0, height 0, wind 3", x.asked(0, 0, 8), 2 + 8);
    }

    private static void kindByWind() {
        Edge.terms(2, "KIND of a CELL at an AGE: river above 9 (1), coast below 3 (2), wind above 3 (4), height below 20 (8), together.");
        Land x = new Land();
        int[] round = {83, 84, 85, 99, 101};
        int[] due = {0, 0, 0, 4, 4};
        for (int i = 0; i < 5; i++) {
            middle(x, round[i], 100);
            Edge.due("KIND with a wind of " + (i + 1), x.asked(100, 0, 8), due[i]);
        }
    }

    private static void kindByHeight() {
        Edge.terms(2, "KIND of a CELL at an AGE: river above 9 (1), coast below 3 (2), wind above 3 (4), height below 20 (8), together.");
        Edge.due("KIND with a height of 21", Check.under("sea 0 28 to 29;").asked(100, 0, 8), 0);
        Edge.due("KIND with a height of 20 and a half", Check.under("sea 0 29;").asked(100, 0, 8), 0);
        Edge.due("KIND with a height of 20", Check.under("sea 0 29 to 30;").asked(100, 0, 8), 0);
        Edge.due("KIND with a height of 19 and a half", Check.under("sea 0 30;").asked(100, 0, 8), 8);
        Edge.due("KIND with a height of 19", Check.under("sea 0 30 to 31;").asked(100, 0, 8), 8);
        Edge.due("KIND with a height of 0", Check.under("sea 0 49;").asked(100, 0, 8), 8);
        Edge.due("KIND with all CELLS at sea: coast 0", Check.under(ALL_AT_SEA).asked(100, 0, 8), 8 + 2);
    }

    private static void buckets() {
        Edge.promise(15, "NONE, doing nothing but REFUSED: no such CELL, n not 1 to 8, there would be more than 8 (no room).");
        Land x = new Land();
        Edge.due("bucket(5, 0)", x.bucket(5, 0), -1);
        Edge.due("bucket(5, -1)", x.bucket(5, -1), -1);
        Edge.due("bucket(5, 9)", x.bucket(5, 9), -1);
        Edge.due("REFUSED not as told", x.count(8), 3);
        Edge.due("none there", x.cell(5, 8), 0);
        Edge.due("bucket(5, 1)", x.bucket(5, 1), 1);
        Edge.due("bucket(5, 8) on 1", x.bucket(5, 8), -1);
        Edge.due("REFUSED for room", x.count(9), 1);
        Edge.due("one there", x.cell(5, 8), 1);
        Edge.due("bucket(5, 6) on 1", x.bucket(5, 6), 7);
        Edge.due("bucket(5, 2) on 7", x.bucket(5, 2), -1);
        Edge.due("bucket(5, 1) on 7", x.bucket(5, 1), 8);
        Edge.due("bucket(5, 1) on 8", x.bucket(5, 1), -1);
        Edge.due("bucket(5, 0) on 8", x.bucket(5, 0), -1);
        Edge.due("bucket(5, 9) on 8", x.bucket(5, 9), -1);
        Edge.due("REFUSED for room", x.count(9), 3);
        Edge.due("REFUSED not as told", x.count(8), 5);
        Edge.promise(15, "BUCKETS with nothing in a CELL: how many there.");
        Edge.due("bucket(8, 2)", x.bucket(8, 2), 2);
        Edge.due("bucket(8, 3) on 2", x.bucket(8, 3), 5);
        Edge.due("of another CELL", x.bucket(10, 1), 1);
        Edge.terms(2, "BUCKETS, up to 8 in a CELL: with nothing.");
        Edge.due("bucket(6, 8)", x.bucket(6, 8), 8);
        Edge.due("bucket(7, 7)", x.bucket(7, 7), 7);
        Edge.due("in all", x.count(3), 29);
        Edge.due("bucket(-1, 1)", x.bucket(-1, 1), -1);
        Edge.due("bucket(0, 1)", x.bucket(0, 1), 1);
        Edge.due("bucket(255, 1)", x.bucket(255, 1), 1);
        Edge.due("bucket(256, 1)", x.bucket(256, 1), -1);
        Edge.due("bucket(256, 9)", x.bucket(256, 9), -1);
        Edge.due("REFUSED not as told", x.count(8), 8);
        Edge.due("in all", x.count(3), 31);
    }

    private static void left(Land x, String with, int cell, int age, long upper, long lower) {
        ratio("left(" + cell + ", " + age + ") " + with, x.left(cell, age, 0), x.left(cell, age, 1), upper, lower);
    }

    private static void prior() {
        Edge.terms(2, "PRIOR of a CELL at an AGE: LEARNT of its KIND, if it's LAND (else 0 by 1).");
        Land x = Check.under("sea 0 10;");
        x.dry(8, true);
        x.dry(10, true);
        x.sound(0, 10, 10);
        left(x, "at sea", 0, 0, 0, 1);
        x.sound(0, 10, 11);
        left(x, "on LAND, KIND 8", 0, 0, 2, 3);
        x.sound(0, 9, 10);
        left(x, "at sea", 0, 0, 0, 1);
        left(x, "of a KIND without DRY places", 100, 0, 1, 2);
        x.dry(0, false);
        left(x, "of KIND 0", 100, 0, 1, 3);
        left(x, "of KIND 2", 1, 0, 1, 2);
        x.dry(2, true);
        x.dry(2, true);
        left(x, "of KIND 2", 1, 0, 3, 4);
    }

    private static void left() {
        Edge.terms(2, "LEFT of it, \"catch\" c: PRIOR times 10 less c by 10 for each BUCKET there, by that and what PRIOR is less than 1.");
        Land x = new Land();
        x.bucket(5, 8);
        left(x, "\"catch\" 0, 8 BUCKETS", 5, 0, 1, 2);
        Check.law(x, "catch 10;");
        left(x, "\"catch\" 10, 8 BUCKETS", 5, 0, 0, 1);
        left(x, "\"catch\" 10, no BUCKETS", 6, 0, 1, 2);
        x.bucket(6, 1);
        left(x, "\"catch\" 10, 1 BUCKET", 6, 0, 0, 1);
        Check.law(x, "catch 9;");
        left(x, "\"catch\" 9, 8 BUCKETS", 5, 0, 1, 100000001);
        left(x, "\"catch\" 9, 1 BUCKET", 6, 0, 1, 11);
        left(x, "\"catch\" 9, no BUCKETS", 7, 0, 1, 2);
        Check.law(x, "catch 1;");
        left(x, "\"catch\" 1, 1 BUCKET", 6, 0, 9, 19);
        x.bucket(6, 1);
        left(x, "\"catch\" 1, 2 BUCKETS", 6, 0, 81, 181);
        left(x, "\"catch\" 1, 8 BUCKETS", 5, 0, 43046721, 143046721);
        Edge.promise(16, "LEFT: the upper number (what 0), the lower one (1), in lowest terms. NONE: none such.");
        x = Check.under("catch 5;");
        x.dry(0, true);
        x.bucket(9, 1);
        left(x, "2 by 3 and a half of it", 9, 0, 1, 2);
        for (int what = 0; what <= 1; what++) {
            Edge.due("left(-1, 0, " + what + ")", x.left(-1, 0, what), -1);
            Edge.due("left(0, 0, " + what + ")", x.left(0, 0, what), 2 + what);
            Edge.due("left(255, 99, " + what + ")", x.left(255, 99, what), 2 + what);
            Edge.due("left(256, 0, " + what + ")", x.left(256, 0, what), -1);
            Edge.due("left(0, -1, " + what + ")", x.left(0, -1, what), -1);
            Edge.due("left(0, 100, " + what + ")", x.left(0, 100, what), -1);
        }
        Edge.due("left(0, 0, -1)", x.left(0, 0, -1), -1);
        Edge.due("left(0, 0, 2)", x.left(0, 0, 2), -1);
    }

    private static void leftOfMany() {
        Edge.promise(16, "LEFT: the upper number (what 0), the lower one (1), in lowest terms. NONE: none such.");
        Land x = Check.under("catch 1;");
        x.bucket(5, 8);
        for (int i = 0; i < 80; i++) {
            x.dry(0, false);
        }
        // 9^8 by that and 81 times 10^8: both by 81
        left(x, "1 by 82 and 8 BUCKETS", 5, 0, 531441L, 531441L + 100000000L);
        left(x, "1 by 82 and no BUCKETS", 6, 0, 1, 82);
        x = Check.under("catch 1;");
        x.bucket(5, 8);
        for (int i = 0; i < 80; i++) {
            x.dry(0, true);
        }
        left(x, "81 by 82 and 8 BUCKETS", 5, 0, 81L * 43046721L, 81L * 43046721L + 100000000L);
    }

    private static void finding() {
        Edge.promise(17, "A FIND: its number. NONE, doing nothing but REFUSED: not as told, 60 are there.");
        Land x = new Land();
        int[][] wrong = {{-1, 0, 5, 6}, {256, 0, 5, 6}, {0, -1, 5, 6}, {0, 3, 5, 6}, {0, 0, -1, 6}, {0, 0, 5, 100}, {0, 0, 100, 100},
            {0, 0, -1, -1}, {0, 0, 6, 5}, {0, 0, 99, 0}};
        for (int i = 0; i < wrong.length; i++) {
            int[] w = wrong[i];
            Edge.due("find(" + w[0] + ", " + w[1] + ", " + w[2] + ", " + w[3] + ")", x.find(w[0], w[1], w[2], w[3]), -1);
            Edge.due("REFUSED not as told", x.count(8), i + 1);
            Edge.due("FINDS", x.count(2), 0);
        }
        int[][] good = {{0, 0, 0, 0}, {255, 2, 99, 99}, {0, 1, 0, 99}, {0, 0, 5, 5}, {0, 0, 5, 6}};
        for (int i = 0; i < good.length; i++) {
            int[] g = good[i];
            Edge.due("find(" + g[0] + ", " + g[1] + ", " + g[2] + ", " + g[3] + ")", x.find(g[0], g[1], g[2], g[3]), i);
            for (int what = 0; what <= 3; what++) {
                Edge.due("found(" + i + ", " + what + ")", x.found(i, what), g[what]);
            }
        }
        Edge.due("REFUSED for room", x.count(9), 0);
    }

    private static void findsFull() {
        Edge.terms(2, "FINDS, up to 60: in a CELL, HOW, of AGES from one to another.");
        Land x = new Land();
        for (int i = 0; i < 59; i++) {
            Edge.due("find, number " + i, x.find(i, i % 3, i, i), i);
        }
        Edge.due("the 60th", x.find(200, 2, 7, 8), 59);
        Edge.due("the 61st", x.find(201, 1, 9, 9), -1);
        Edge.due("REFUSED for room", x.count(9), 1);
        Edge.due("the 61st, not as told", x.find(201, 3, 9, 9), -1);
        Edge.due("the 61st, not as told", x.find(201, 1, 9, 8), -1);
        Edge.due("REFUSED for room", x.count(9), 1);
        Edge.due("REFUSED not as told", x.count(8), 2);
        Edge.due("FINDS", x.count(2), 60);
        Edge.due("the 60th's CELL", x.found(59, 0), 200);
        Edge.due("no 61st", x.found(60, 0), -1);
        Edge.due("the first's CELL", x.found(0, 0), 0);
    }

    private static void found() {
        Edge.promise(18, "Of a FIND: 0 CELL, 1 HOW, 2 first, 3 last AGE. NONE: none such.");
        Land x = new Land();
        Edge.due("found(0, 0) without", x.found(0, 0), -1);
        x.find(7, 2, 30, 40);
        x.find(8, 1, 31, 41);
        int[] due = {8, 1, 31, 41};
        for (int what = 0; what <= 3; what++) {
            Edge.due("found(1, " + what + ")", x.found(1, what), due[what]);
            Edge.due("found(-1, " + what + ")", x.found(-1, what), -1);
            Edge.due("found(2, " + what + ")", x.found(2, what), -1);
        }
        Edge.due("found(1, -1)", x.found(1, -1), -1);
        Edge.due("found(1, 4)", x.found(1, 4), -1);
        Edge.due("found(0, 0)", x.found(0, 0), 7);
    }

    private static void carried(Land x, String with, int find, long upper, long lower) {
        ratio("carried(" + find + ") " + with, x.carried(find, 0), x.carried(find, 1), upper, lower);
    }

    private static void carriedByCarry() {
        Edge.terms(2, "CARRIED of one: \"carry\" of its HOW times the LIVE of all CELLS of LAND in its AGES together, "
                + "by that and (100 less \"carry\") times 256 times that of its own CELL.");
        String live = "live 1 if x=0 and y=0;live 3 if x=1 and y=0;";
        Land x = Check.under(live);
        x.find(0, 0, 5, 5);
        x.find(2, 0, 5, 5);
        x.find(0, 1, 5, 5);
        carried(x, "\"carry\" 0", 0, 0, 1);
        Check.law(x, live + "carry fished 1;");
        carried(x, "\"carry\" 1: 4 by 4 and 99 times 256", 0, 1, 6337);
        carried(x, "\"carry\" 1, nobody there", 1, 1, 1);
        Check.law(x, live + "carry fished 99;");
        carried(x, "\"carry\" 99: 396 by 396 and 256", 0, 99, 163);
        carried(x, "of another HOW", 2, 0, 1);
        Check.law(x, live + "carry fished 100;carry cored 50;");
        carried(x, "\"carry\" 100", 0, 1, 1);
        carried(x, "\"carry\" 50: 200 by 200 and 12800", 2, 1, 65);
        Edge.promise(19, "CARRIED: the upper number (what 0), the lower one (1), in lowest terms. NONE: none such.");
        carried(x, "none ahead of the first", -1, -1, -1);
        carried(x, "none behind the last", 3, -1, -1);
        Edge.due("carried(0, -1)", x.carried(0, -1), -1);
        Edge.due("carried(0, 2)", x.carried(0, 2), -1);
        carried(new Land(), "without FINDS", 0, -1, -1);
        x = Check.under("live 99;carry fished 50;");
        x.find(0, 0, 0, 99);
        carried(x, "all as much", 0, 1, 2);
    }

    private static void carriedByAges() {
        Edge.terms(2, "CARRIED of one: \"carry\" of its HOW times the LIVE of all CELLS of LAND in its AGES together, "
                + "by that and (100 less \"carry\") times 256 times that of its own CELL.");
        Land x = Check.under("carry fished 50;live 1 if x=0 and y=0 and age=50;live 3 if x=1 and y=0 and age>48 and age<52;");
        x.find(0, 0, 50, 50);
        x.find(0, 0, 49, 49);
        x.find(0, 0, 49, 51);
        x.find(0, 0, 0, 48);
        x.find(0, 0, 51, 99);
        carried(x, "of AGE 50: 200 by 200 and 12800", 0, 1, 65);
        carried(x, "of AGE 49", 1, 1, 1);
        carried(x, "of AGES 49 to 51: 500 by 500 and 12800", 2, 5, 133);
        carried(x, "of AGES up to 48", 3, 0, 1);
        carried(x, "of AGES from 51", 4, 1, 1);
    }

    /** CELLS 0 and 1, 20 and 40 in half yards, are at sea from AGE 50 and from AGE 60. */
    private static void carriedBySea() {
        Edge.terms(2, "CARRIED of one: \"carry\" of its HOW times the LIVE of all CELLS of LAND in its AGES together, "
                + "by that and (100 less \"carry\") times 256 times that of its own CELL.");
        Land x = Check.under("carry fished 50;live 1 if x=0 and y=0;live 3 if x=1 and y=0;sea 50 10;sea 60 20;");
        x.sound(0, 10, 10);
        x.sound(1, 20, 20);
        x.find(0, 0, 49, 49);
        x.find(0, 0, 50, 50);
        x.find(0, 0, 49, 50);
        x.find(0, 0, 59, 60);
        x.find(0, 0, 60, 99);
        carried(x, "LAND the AGE before: 200 by 200 and 12800", 0, 1, 65);
        carried(x, "its own CELL is at sea, another isn't", 1, 1, 1);
        carried(x, "LAND in the first of two AGES: 350 by 350 and 12800", 2, 7, 263);
        carried(x, "the other CELL in the first of two AGES", 3, 1, 1);
        carried(x, "both are at sea", 4, 0, 1);
    }

    private static void carriedOfNobody() {
        Edge.terms(2, "(0 by 1, if both are 0.)");
        Land x = Check.under("carry fished 100;");
        x.find(0, 0, 5, 5);
        x.find(2, 1, 5, 5);
        carried(x, "nobody at all, \"carry\" 100", 0, 0, 1);
        carried(x, "nobody at all, \"carry\" 0", 1, 0, 1);
        Check.law(x, "live 1 if x=0 and y=0;");
        carried(x, "nobody there, \"carry\" 0", 1, 0, 1);
        carried(x, "somebody there, \"carry\" 0", 0, 0, 1);
        Check.law(x, "live 1 if x=0 and y=0;carry cored 1;");
        carried(x, "nobody there, \"carry\" 1", 1, 1, 1);
    }

    private static void leaning() {
        Edge.terms(3, "LEAN of a QUARTER (0 to 3: x above 7 1, y above 7 2) at an AGE: its FISH of all CELLS (LAND or not) together.");
        Land x = Check.under("fish 1 if x=7 and y=7;fish 2 if x=8 and y=7;fish 4 if x=7 and y=8;fish 8 if x=8 and y=8;");
        Land y = Check.under("fish 1 if x=0 and y=0;fish 2 if x=15 and y=0;fish 4 if x=0 and y=15;fish 8 if x=15 and y=15;");
        for (int q = 0; q < 4; q++) {
            Edge.due("lean(" + q + ", 0) by the middle", x.lean(q, 0), 1 << q);
            Edge.due("lean(" + q + ", 99) by the corners", y.lean(q, 99), 1 << q);
        }
        x = Check.under(ALL_AT_SEA + "fish 99;");
        Edge.due("all at sea", x.lean(3, 0), 64 * 99);
        x = Check.under("sea 50 10;fish 1 if age=50;fish 3 if height=0;");
        x.sound(0, 10, 10);
        Edge.due("AGE 49", x.lean(0, 49), 0);
        Edge.due("AGE 50", x.lean(0, 50), 64);
        Edge.due("AGE 51, one CELL at sea", x.lean(0, 51), 3);
        x.sound(0, 10, 11);
        Edge.due("AGE 51, one CELL of LAND 0 high", x.lean(0, 51), 3);
        x.sound(0, 11, 11);
        Edge.due("AGE 51, one CELL of LAND 1 high", x.lean(0, 51), 0);
        Edge.promise(26, "LEAN. NONE: none such.");
        Edge.due("lean(-1, 50)", x.lean(-1, 50), -1);
        Edge.due("lean(4, 50)", x.lean(4, 50), -1);
        Edge.due("lean(0, -1)", x.lean(0, -1), -1);
        Edge.due("lean(0, 100)", x.lean(0, 100), -1);
        Edge.due("lean(3, 99)", x.lean(3, 99), 0);
        Edge.due("lean(0, 0)", x.lean(0, 0), 0);
    }

    private static void right(Land x, String with, int quarter, int age, long upper, long lower) {
        ratio("right(" + quarter + ", " + age + ") " + with, x.right(quarter, age, 0), x.right(quarter, age, 1), upper, lower);
    }

    private static void right() {
        Edge.terms(3, "RIGHT of it: FINDS \"fished\" there by LEAN, by all of them by all LEAN (none: LEAN 0 there, no FINDS \"fished\" anywhere).");
        Land x = Check.under("fish 1 if x=0 and y=0;fish 3 if x=15 and y=15;");
        right(x, "without FINDS", 0, 0, -1, -1);
        x.find(0, 1, 0, 0);
        x.find(0, 2, 0, 0);
        right(x, "without FINDS \"fished\"", 0, 0, -1, -1);
        x.find(0, 0, 7, 7);
        right(x, "1 by 1, by 1 by 4", 0, 0, 4, 1);
        right(x, "LEAN 0", 1, 0, -1, -1);
        right(x, "0 by 3", 3, 0, 0, 1);
        x.find(255, 0, 8, 8);
        right(x, "1 by 1, by 2 by 4", 0, 0, 2, 1);
        right(x, "1 by 3, by 2 by 4", 3, 0, 2, 3);
        x.find(120, 0, 9, 9);
        right(x, "LEAN 0 with a FIND", 1, 0, -1, -1);
        right(x, "1 by 1, by 3 by 4", 0, 0, 4, 3);
        x = Check.under("fish 1 if age=50;");
        x.find(0, 0, 0, 0);
        right(x, "LEAN 0 then", 0, 49, -1, -1);
        right(x, "1 by 64, by 1 by 256", 0, 50, 4, 1);
        right(x, "LEAN 0 then", 0, 51, -1, -1);
        Edge.promise(27, "RIGHT: the upper number (what 0), the lower one (1), in lowest terms. NONE: none, none such.");
        right(x, "none ahead of 0", -1, 50, -1, -1);
        right(x, "none behind 3", 4, 50, -1, -1);
        right(x, "none ahead of AGE 0", 0, -1, -1, -1);
        right(x, "none behind AGE 99", 0, 100, -1, -1);
        Edge.due("right(0, 50, -1)", x.right(0, 50, -1), -1);
        Edge.due("right(0, 50, 2)", x.right(0, 50, 2), -1);
    }

    private static void rightByQuarters() {
        Edge.terms(3, "RIGHT of it: FINDS \"fished\" there by LEAN, by all of them by all LEAN (none: LEAN 0 there, no FINDS \"fished\" anywhere).");
        int[] at = {0, 7, 112, 119, 8, 15, 120, 127, 128, 135, 240, 247, 136, 143, 248, 255};
        for (int i = 0; i < at.length; i++) {
            Land x = Check.under("fish 1;");
            x.find(at[i], 0, 0, 0);
            for (int q = 0; q < 4; q++) {
                Edge.due("right(" + q + ", 0, 0) with a FIND in " + at[i], x.right(q, 0, 0), i / 4 == q ? 4 : 0);
            }
        }
        Land x = Check.under("fish 99;");
        for (int i = 0; i < 60; i++) {
            x.find(i < 59 ? 0 : 255, 0, 0, 0);
        }
        right(x, "59 of 60", 0, 0, 59, 15);
        right(x, "1 of 60", 3, 0, 1, 15);
    }

    private static void ahead() {
        Edge.terms(3, "AHEAD at an AGE: all CELLS by LIVE (0 at sea), the most first, of several by numbers.");
        Land x = Check.under("live 99 if x=9 and y=9;live 98 if x=8 and y=8;live 2 if x=5;live 1 if y=0;");
        int[] k = {0, 1, 2, 3, 17, 18, 22, 23, 32, 33, 34, 255};
        int[] due = {153, 136, 5, 21, 245, 0, 4, 6, 15, 16, 17, 255};
        for (int i = 0; i < k.length; i++) {
            Edge.due("ahead(0, " + k[i] + ")", x.ahead(0, k[i]), due[i]);
        }
        x.sound(5, 0, 0);
        Edge.due("the first with LIVE 2 when 5 is at sea", x.ahead(0, 2), 21);
        Edge.due("the last with LIVE 1", x.ahead(0, 31), 15);
        Edge.due("5 with those without", x.ahead(0, 32), 5);
        Edge.due("the next of them", x.ahead(0, 33), 16);
        Edge.promise(28, "The k-th CELL AHEAD (0 on). NONE: none such.");
        Edge.due("ahead(0, -1)", x.ahead(0, -1), -1);
        Edge.due("ahead(0, 0)", x.ahead(0, 0), 153);
        Edge.due("ahead(0, 255)", x.ahead(0, 255), 255);
        Edge.due("ahead(0, 256)", x.ahead(0, 256), -1);
        Edge.due("ahead(-1, 0)", x.ahead(-1, 0), -1);
        Edge.due("ahead(99, 0)", x.ahead(99, 0), 153);
        Edge.due("ahead(100, 0)", x.ahead(100, 0), -1);
        x = new Land();
        Edge.due("without LIVE the first", x.ahead(0, 0), 0);
        Edge.due("without LIVE the last", x.ahead(0, 255), 255);
        x = Check.under("live 99;");
        Edge.due("all alike, the last", x.ahead(0, 255), 255);
    }

    private static void held() {
        Edge.terms(3, "HELD of the first k: FINDS in them and all.");
        Land x = Check.under("live 2 if x=5;");
        x.find(5, 0, 0, 0);
        x.find(21, 1, 99, 99);
        x.find(255, 2, 5, 5);
        x.find(0, 2, 5, 5);
        // the sixteen with x 5, then CELLS 0 to 255 without them: 0 is the 17th, 255 the last
        int[] k = {1, 2, 3, 16, 17, 18, 255, 256};
        int[] due = {1, 2, 2, 2, 3, 3, 3, 4};
        for (int i = 0; i < k.length; i++) {
            Edge.due("held(7, " + k[i] + ", 0)", x.held(7, k[i], 0), due[i]);
            Edge.due("held(7, " + k[i] + ", 1)", x.held(7, k[i], 1), 4);
        }
        x.find(5, 0, 1, 1);
        Edge.due("two in one CELL", x.held(7, 1, 0), 2);
        Edge.promise(29, "HELD (k 1 to 256): FINDS in them (what 0), all (1). NONE: none such.");
        for (int what = 0; what <= 1; what++) {
            Edge.due("held(7, 0, " + what + ")", x.held(7, 0, what), -1);
            Edge.due("held(7, 257, " + what + ")", x.held(7, 257, what), -1);
            Edge.due("held(-1, 1, " + what + ")", x.held(-1, 1, what), -1);
            Edge.due("held(0, 1, " + what + ")", x.held(0, 1, what), 2 + 3 * what);
            Edge.due("held(99, 256, " + what + ")", x.held(99, 256, what), 5);
            Edge.due("held(100, 1, " + what + ")", x.held(100, 1, what), -1);
        }
        Edge.due("held(7, 1, -1)", x.held(7, 1, -1), -1);
        Edge.due("held(7, 1, 2)", x.held(7, 1, 2), -1);
        Edge.due("without FINDS", new Land().held(0, 256, 1), 0);
    }

    /** The n-th draw (1 on) of a seed: z shifted to the right by 33, told with whole numbers of any size. */
    private static int draw(int seed, int n, int modulo) {
        BigInteger z = BigInteger.valueOf(seed);
        for (int i = 0; i < n; i++) {
            z = z.multiply(new BigInteger("6364136223846793005")).add(new BigInteger("1442695040888963407"))
                    .mod(BigInteger.ONE.shiftLeft(64));
        }
        return z.shiftRight(33).mod(BigInteger.valueOf(modulo)).intValueExact();
    }

    private static void worldDraws() {
        Edge.terms(3, "z shifted to the right by 33 (0 comes in) modulo all LIVE of LAND at an AGE: "
                + "the first CELL by numbers with which LIVE up to it is above that");
        for (int seed : new int[] {0, 1, 2, 3, 4, 5, 6, 7, 999999998, 999999999}) {
            int drawn = draw(seed, 1, 100);
            // LIVE of 100 in two CELLS: as much as is drawn up to the first, and one more
            if (drawn >= 1 && drawn <= 98) {
                Land x = Check.under("catch 10;live " + drawn + " if x=3 and y=0;live " + (100 - drawn) + " if x=9 and y=0;");
                Edge.due("LIVE up to it like what is drawn, seed " + seed, x.world(seed, 0, 1, 3, 1), 0);
                Edge.due("then the next one, seed " + seed, x.world(seed, 0, 1, 9, 1), 1);
                Edge.due("none between them, seed " + seed, x.world(seed, 0, 1, 4, 1), 0);
                Check.law(x, "catch 10;live " + (drawn + 1) + " if x=3 and y=0;live " + (99 - drawn) + " if x=9 and y=0;");
                Edge.due("LIVE up to it above what is drawn, seed " + seed, x.world(seed, 0, 1, 3, 1), 1);
                Edge.due("not the next one then, seed " + seed, x.world(seed, 0, 1, 9, 1), 0);
            }
            Land y = Check.under("catch 10;live 1 if y=0;");
            for (int c = 0; c < 16; c++) {
                Edge.due("one of sixteen, seed " + seed, y.world(seed, 0, 1, c, 1), draw(seed, 1, 16) == c ? 1 : 0);
            }
        }
        Land x = Check.under("sea 50 10;catch 10;live 1 if x<2 and y=0;");
        x.sound(0, 10, 10);
        for (int seed = 0; seed < 20; seed++) {
            Edge.due("of LAND alone, seed " + seed, x.world(seed, 50, 1, 1, 1), 1);
            Edge.due("not at sea, seed " + seed, x.world(seed, 50, 1, 0, 1), 0);
            Edge.due("an AGE earlier, seed " + seed, x.world(seed, 49, 1, 0, 1), 1 - draw(seed, 1, 2));
        }
    }

    private static void worldKept() {
        Edge.terms(3, "another such draw modulo 100: it's KEPT, if below KEEP");
        for (int seed = 0; seed < 20; seed++) {
            int drawn = draw(seed, 2, 100);
            for (int keep = Math.max(0, drawn - 1); keep <= drawn + 2 && keep <= 100; keep++) {
                Land x = Check.under("catch 10;live 1 if x=3 and y=0;keep " + keep + ";");
                Edge.due("KEEP " + keep + ", " + drawn + " drawn, seed " + seed, x.world(seed, 0, 1, 3, 1), keep > drawn ? 1 : 0);
            }
        }
        Land never = Check.under("catch 10;live 1 if x=3 and y=0;keep 0;");
        Land always = Check.under("catch 10;live 1 if x=3 and y=0;keep 100;");
        Land then = Check.under("catch 10;live 1 if x=3 and y=0;keep 0 if age=50;keep 0 if not x=3;");
        for (int seed = 0; seed < 60; seed++) {
            Edge.due("KEEP 0, seed " + seed, never.world(seed, 0, 200, 3, 1), 0);
            Edge.due("KEEP 100, seed " + seed, always.world(seed, 0, 1, 3, 1), 1);
            Edge.due("KEEP at that AGE, seed " + seed, then.world(seed, 50, 1, 3, 1), 0);
            Edge.due("KEEP at another AGE, seed " + seed, then.world(seed, 51, 1, 3, 1), 1);
        }
        Land without = Check.under("catch 10;live 1 if x=3 and y=0;");
        int greatest = 0;
        for (int seed = 0; greatest < 3; seed++) {
            if (draw(seed, 2, 100) == 99) {
                greatest++;
                Edge.due("without \"keep\", 99 drawn, seed " + seed, without.world(seed, 0, 1, 3, 1), 1);
            }
        }
        Edge.terms(3, "then for each BUCKET in a told CELL a draw modulo 10: it's a hit, if below \"catch\" and some CAMP is KEPT there.");
        Land x = Check.under("catch 10;live 1 if x=3 and y=0;keep 50;");
        for (int seed = 0; seed < 60; seed++) {
            boolean first = draw(seed, 2, 100) < 50;
            boolean second = draw(seed, 4, 100) < 50;
            Edge.due("one CAMP, seed " + seed, x.world(seed, 0, 1, 3, 1), first ? 1 : 0);
            Edge.due("some of two CAMPS, seed " + seed, x.world(seed, 0, 2, 3, 1), first || second ? 1 : 0);
        }
    }

    private static void worldHits() {
        Edge.terms(3, "then for each BUCKET in a told CELL a draw modulo 10: it's a hit, if below \"catch\" and some CAMP is KEPT there.");
        for (int seed = 0; seed < 20; seed++) {
            int drawn = draw(seed, 3, 10);
            for (int c = Math.max(0, drawn - 1); c <= drawn + 2 && c <= 10; c++) {
                Land x = Check.under("live 1 if x=3 and y=0;catch " + c + ";");
                Edge.due("\"catch\" " + c + ", " + drawn + " drawn, seed " + seed, x.world(seed, 0, 1, 3, 1), c > drawn ? 1 : 0);
            }
        }
        Land x = Check.under("live 1 if x=3 and y=0;catch 10;");
        for (int buckets : new int[] {0, 1, 2, 98, 99}) {
            Edge.due("\"catch\" 10, BUCKETS " + buckets, x.world(7, 0, 200, 3, buckets), buckets);
            Edge.due("another CELL, BUCKETS " + buckets, x.world(7, 0, 200, 2, buckets), 0);
        }
        Check.law(x, "live 1 if x=3 and y=0;catch 0;");
        Edge.due("\"catch\" 0", x.world(7, 0, 200, 3, 99), 0);
        Check.law(x, "live 1 if x=3 and y=0;");
        Edge.due("without \"catch\"", x.world(7, 0, 200, 3, 99), 0);
        x.bucket(3, 8);
        Check.law(x, "live 1 if x=3 and y=0;catch 10;");
        Edge.due("BUCKETS with nothing are others", x.world(7, 0, 1, 3, 2), 2);
    }

    private static void worldOfMany() {
        Edge.terms(3, "so many CAMPS: for each one z becomes z times 6364136223846793005 and 1442695040888963407 (64 bits, wrapping)");
        Land x = Check.under("live 1 if y=0;keep 30;catch 6;");
        for (int seed : new int[] {0, 1, 123456789, 999999999}) {
            for (int camps : new int[] {1, 2, 199, 200}) {
                boolean kept = false;
                for (int i = 0; i < camps; i++) {
                    kept |= draw(seed, 2 * i + 1, 16) == 5 && draw(seed, 2 * i + 2, 100) < 30;
                }
                int hits = 0;
                for (int i = 1; i <= 40; i++) {
                    hits += kept && draw(seed, 2 * camps + i, 10) < 6 ? 1 : 0;
                }
                Edge.due("world(" + seed + ", 0, " + camps + ", 5, 40)", x.world(seed, 0, camps, 5, 40), hits);
            }
        }
    }

    private static void worldWrongly() {
        Edge.promise(30, "WORLD (seed 0 to 999,999,999, CAMPS 1 to 200, BUCKETS 0 to 99): hits. NONE: none such, no LIVE at all.");
        Land x = Check.under("sea 50 49 to 50;live 1;catch 10;");
        int[][] calls = {{-1, 0, 1, 0, 0}, {0, 0, 1, 0, 0}, {999999999, 0, 1, 0, 0}, {1000000000, 0, 1, 0, 0}, {5, -1, 1, 0, 0},
            {5, 49, 1, 0, 0}, {5, 50, 1, 0, 0}, {5, 99, 1, 0, 0}, {5, 100, 1, 0, 0}, {5, 0, 0, 0, 0}, {5, 0, 200, 0, 0},
            {5, 0, 201, 0, 0}, {5, 0, 1, -1, 0}, {5, 0, 1, 255, 0}, {5, 0, 1, 256, 0}, {5, 0, 1, 0, -1}, {5, 0, 1, 0, 100}};
        int[] due = {-1, 0, 0, -1, -1, 0, -1, -1, -1, -1, 0, -1, -1, 0, -1, -1, -1};
        for (int i = 0; i < calls.length; i++) {
            int[] c = calls[i];
            Edge.due("world(" + c[0] + ", " + c[1] + ", " + c[2] + ", " + c[3] + ", " + c[4] + ")",
                    x.world(c[0], c[1], c[2], c[3], c[4]), due[i]);
        }
        Edge.due("world without LIVE", new Land().world(5, 0, 1, 0, 1), -1);
        x = Check.under("live 1 if x=0 and y=0 and age=50;catch 10;");
        Edge.due("no LIVE an AGE earlier", x.world(5, 49, 1, 0, 1), -1);
        Edge.due("LIVE of 1", x.world(5, 50, 1, 0, 1), 1);
        Edge.due("no LIVE an AGE later", x.world(5, 51, 1, 0, 1), -1);
    }

    private static void say() {
        Edge.terms(3, "SAY of a CELL at an AGE: 3 there's a FIND of AGES with it, \"cored\" or \"grabbed\"; else 2 such a \"fished\" one; "
                + "else 1 LEFT is at least a half; else 0; NONE at sea.");
        for (int how = 0; how <= 2; how++) {
            Land x = new Land();
            x.dry(0, false);
            x.find(100, how, 10, 20);
            int[] ages = {0, 9, 10, 11, 19, 20, 21, 99};
            for (int age : ages) {
                boolean with = age >= 10 && age <= 20;
                Edge.due("say(100, " + age + ") with HOW " + how, x.say(100, age), !with ? 0 : how == 0 ? 2 : 3);
            }
            Edge.due("a CELL beside it", x.say(101, 10), 0);
            Edge.due("a CELL beside it", x.say(99, 10), 0);
            x.find(100, 0, 15, 15);
            Edge.due("and a \"fished\" one", x.say(100, 15), how == 0 ? 2 : 3);
            x.find(100, 1, 12, 12);
            Edge.due("and a \"cored\" one", x.say(100, 12), 3);
            Edge.due("and a \"cored\" one, not then", x.say(100, 13), how == 0 ? 2 : 3);
        }
        Land x = Check.under("sea 50 10;");
        x.sound(0, 10, 10);
        x.find(0, 1, 0, 99);
        Edge.due("on LAND with a FIND", x.say(0, 49), 3);
        Edge.due("at sea with a FIND", x.say(0, 50), -1);
        x.sound(0, 10, 11);
        Edge.due("on LAND by half a yard", x.say(0, 50), 3);
        Edge.promise(31, "SAY. -2: none such.");
        Edge.due("say(-1, 0)", x.say(-1, 0), -2);
        Edge.due("say(255, 0)", x.say(255, 0), 1);
        Edge.due("say(256, 0)", x.say(256, 0), -2);
        Edge.due("say(0, -1)", x.say(0, -1), -2);
        Edge.due("say(0, 0)", x.say(0, 0), 3);
        Edge.due("say(0, 99)", x.say(0, 99), 3);
        Edge.due("say(0, 100)", x.say(0, 100), -2);
    }

    private static void sayByLeft() {
        Edge.terms(3, "else 1 LEFT is at least a half; else 0; NONE at sea.");
        Edge.due("LEFT 1 by 2", new Land().say(0, 0), 1);
        for (int camps = 38; camps <= 42; camps++) {
            Land x = new Land();
            for (int i = 0; i < 80; i++) {
                x.dry(0, i < camps);
            }
            Edge.due("LEFT " + (camps + 1) + " by 82", x.say(0, 0), camps >= 40 ? 1 : 0);
        }
        Land x = Check.under("catch 5;");
        x.bucket(0, 1);
        Edge.due("LEFT 1 by 3", x.say(0, 0), 0);
        x.dry(0, true);
        Edge.due("LEFT 2 by 4", x.say(0, 0), 1);
        x.bucket(0, 1);
        Edge.due("LEFT 2 by 6", x.say(0, 0), 0);
        Edge.due("at sea", Check.under(ALL_AT_SEA).say(0, 0), -1);
    }

    private static void unlike() {
        Edge.promise(37, "UNLIKE. NONE: none such, no LAND, no DRY places.");
        Land x = Check.under("sea 50 49 to 50;");
        Edge.due("no DRY places", x.unlike(0), -1);
        x.dry(0, true);
        Edge.due("unlike(-1)", x.unlike(-1), -1);
        Edge.due("unlike(0)", x.unlike(0), 0);
        Edge.due("unlike(49)", x.unlike(49), 0);
        Edge.due("unlike(50): no LAND", x.unlike(50), -1);
        Edge.due("unlike(99): no LAND", x.unlike(99), -1);
        Edge.due("unlike(100)", x.unlike(100), -1);
        x.sound(100, 99, 99);
        Edge.due("one CELL of LAND", x.unlike(50), 2000);
        x.dry(2, false);
        Edge.due("one CELL of LAND, of KIND 2 like one of two", x.unlike(50), 500 + 500);
    }

    private static void unlikeCut() {
        Edge.terms(3, "UNLIKE at an AGE: by KINDS how far how many CELLS of LAND are of it is from how many DRY places are, "
                + "each in thousandths of all (cut), together.");
        Land x = new Land();
        x.dry(0, true);
        Edge.due("alike", x.unlike(0), 0);
        x.dry(1, true);
        x.dry(1, false);
        // DRY: 333 of KIND 0, 666 of KIND 1; LAND: 1000 of KIND 0
        Edge.due("thirds", x.unlike(0), 667 + 666);
        x = new Land();
        x.dry(15, true);
        middle(x, 100, 38);
        // one of 256 is 3.9 thousandths, 255 of them 996.1: height 19, wind 8
        Edge.due("KIND of CELL 100", x.asked(100, 0, 8), 4 + 8);
        Edge.due("one of 256 apart", x.unlike(0), 3 + 996 + 1000);
        for (int i = 0; i < 79; i++) {
            x.dry(0, true);
        }
        // DRY: 79 of 80 are 987.5, 1 of 80 is 12.5
        Edge.due("one of 80 apart", x.unlike(0), 3 + (996 - 987) + 12);
    }
}
