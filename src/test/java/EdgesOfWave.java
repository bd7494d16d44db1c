/** The edges of the WAVE, MUD, PLACES and the ways to lay BUCKETS: Terms 3, promises 20 to 25 and 38. */
final class EdgesOfWave {
    private static final String ALL_AT_SEA = "sea 0 49 to 50;";

    private EdgesOfWave() {
    }

    static void tryAll() {
        gone();
        goneFarInland();
        goneWrongly();
        rest();
        isles();
        restWrongly();
        mud();
        mudFull();
        leastAndGreatest();
        mudAtSea();
        mudAndDrop();
        heightWrongly();
        places();
        nothingCut();
        odds();
        oddsInOrder();
        firstOfSeveral();
        shipAgain();
        shipWrongly();
        doubt();
        doubtOfMany();
        doubtWrongly();
    }

    /** At AGE 10 CELL 0 alone is at sea, all others are 19 high; ahead of it all is LAND, 49 high but for CELL 0. */
    private static Land coastland() {
        Land x = Check.under("sea 10 30;");
        x.sound(0, 30, 30);
        return x;
    }

    private static void gone(Land x, int cell, int age, int drop, int stands) {
        for (int high = Math.max(1, stands - 1); high <= Math.min(99, stands + 2); high++) {
            Edge.due("gone(" + cell + ", " + age + ", " + high + ", " + drop + ")", x.gone(cell, age, high, drop), high > stands ? 1 : 0);
        }
    }

    private static void gone() {
        Edge.terms(3, "A WAVE at an AGE, so high (1 to 99) with a DROP (0 to 20): "
                + "GONE are CELLS of LAND whose height asked is below that high less DROP times coast.");
        Land x = coastland();
        gone(x, 1, 10, 0, 19);
        gone(x, 1, 10, 1, 20);
        gone(x, 1, 10, 19, 38);
        gone(x, 1, 10, 20, 39);
        gone(x, 2, 10, 20, 59);
        gone(x, 3, 10, 20, 79);
        gone(x, 17, 10, 5, 29);
        gone(x, 18, 10, 5, 34);
        gone(x, 255, 10, 2, 79);
        gone(x, 255, 10, 0, 19);
        gone(x, 1, 9, 0, 49);
        x.sound(1, 30, 31);
        gone(x, 1, 10, 0, 0);
        gone(x, 1, 10, 1, 1);
        x.sound(1, 31, 31);
        gone(x, 1, 10, 0, 1);
    }

    private static void goneFarInland() {
        Edge.terms(3, "A WAVE at an AGE, so high (1 to 99) with a DROP (0 to 20): "
                + "GONE are CELLS of LAND whose height asked is below that high less DROP times coast.");
        Land x = new Land();
        Edge.due("no coast: 99 steps, high 99, DROP 1", x.gone(100, 0, 99, 1), 0);
        Edge.due("no coast: 99 steps, high 99, DROP 20", x.gone(100, 0, 99, 20), 0);
        Edge.due("no coast, DROP 0, high 99", x.gone(100, 0, 99, 0), 1);
        Edge.due("no coast, DROP 0, high 50", x.gone(100, 0, 50, 0), 1);
        Edge.due("no coast, DROP 0, high 49", x.gone(100, 0, 49, 0), 0);
        x.sound(100, 0, 1);
        Edge.due("height 0, DROP 0, high 1", x.gone(100, 0, 1, 0), 1);
        Edge.due("height 0, DROP 1, high 99", x.gone(100, 0, 99, 1), 0);
        x.sound(100, 99, 99);
        Edge.due("height 99, DROP 0, high 99", x.gone(100, 0, 99, 0), 0);
        x.sound(100, 98, 99);
        Edge.due("height 98, DROP 0, high 99", x.gone(100, 0, 99, 0), 1);
        Edge.due("height 98, DROP 0, high 98", x.gone(100, 0, 98, 0), 0);
    }

    private static void goneWrongly() {
        Edge.promise(20, "A WAVE: of a CELL whether it's GONE (1, 0 LAND that isn't, NONE at sea). -2: none such.");
        Land x = coastland();
        Edge.due("at sea, high 99", x.gone(0, 10, 99, 0), -1);
        Edge.due("at sea, high 1", x.gone(0, 10, 1, 20), -1);
        Edge.due("LAND that isn't", x.gone(1, 10, 1, 0), 0);
        Edge.due("LAND that is", x.gone(1, 10, 99, 0), 1);
        int[][] calls = {{-1, 10, 5, 0}, {256, 10, 5, 0}, {1, -1, 5, 0}, {1, 100, 5, 0}, {1, 10, 0, 0}, {1, 10, 100, 0}, {1, 10, -1, 0},
            {1, 10, 5, -1}, {1, 10, 5, 21}, {0, 10, 0, 0}, {0, 10, 100, 0}, {0, 10, 5, 21}, {0, 10, 5, -1}};
        for (int[] c : calls) {
            Edge.due("gone(" + c[0] + ", " + c[1] + ", " + c[2] + ", " + c[3] + ")", x.gone(c[0], c[1], c[2], c[3]), -2);
        }
        int[][] good = {{255, 10, 5, 0}, {1, 0, 5, 0}, {1, 99, 5, 0}, {1, 10, 1, 0}, {1, 10, 5, 20}};
        for (int[] c : good) {
            Edge.due("gone(" + c[0] + ", " + c[1] + ", " + c[2] + ", " + c[3] + ")", x.gone(c[0], c[1], c[2], c[3]), 0);
        }
    }

    private static void rest(Land x, int age, int high, int drop, int rest, int isles, int gone) {
        String call = "rest(" + age + ", " + high + ", " + drop + ", ";
        Edge.due(call + "0)", x.rest(age, high, drop, 0), rest);
        Edge.due(call + "1)", x.rest(age, high, drop, 1), isles);
        Edge.due(call + "2)", x.rest(age, high, drop, 2), gone);
    }

    private static void rest() {
        Edge.terms(3, "REST: how many CELLS of LAND aren't GONE");
        Land x = coastland();
        rest(x, 10, 1, 0, 255, 1, 0);
        rest(x, 10, 19, 0, 255, 1, 0);
        rest(x, 10, 20, 0, 0, 0, 255);
        rest(x, 10, 99, 0, 0, 0, 255);
        // with a DROP of 5 those one step off stand to 24, those two steps off to 29
        rest(x, 10, 24, 5, 255, 1, 0);
        rest(x, 10, 25, 5, 253, 1, 2);
        rest(x, 10, 29, 5, 253, 1, 2);
        rest(x, 10, 30, 5, 250, 1, 5);
        rest(x, 9, 30, 0, 256, 1, 0);
        rest(x, 9, 31, 0, 255, 1, 1);
        rest(Check.under(ALL_AT_SEA), 0, 1, 0, 0, 0, 0);
        x = Check.under(ALL_AT_SEA);
        x.sound(100, 50, 50);
        rest(x, 0, 1, 0, 0, 0, 1);
        rest(x, 0, 1, 1, 1, 1, 0);
        x.sound(100, 50, 51);
        rest(x, 0, 1, 0, 1, 1, 0);
        rest(x, 0, 2, 0, 0, 0, 1);
    }

    private static void isles() {
        Edge.terms(3, "ISLES: in how many that hang together by CELLS BESIDE.");
        Land x = new Land();
        x.sound(100, 60, 60);
        rest(x, 0, 50, 0, 1, 1, 255);
        x.sound(117, 60, 60);
        rest(x, 0, 50, 0, 2, 2, 254);
        x.sound(101, 60, 60);
        rest(x, 0, 50, 0, 3, 1, 253);
        x.sound(15, 60, 60);
        x.sound(16, 60, 60);
        rest(x, 0, 50, 0, 5, 3, 251);
        x.sound(0, 60, 60);
        rest(x, 0, 50, 0, 6, 3, 250);
        x.sound(255, 60, 60);
        x.sound(240, 60, 60);
        rest(x, 0, 50, 0, 8, 5, 248);
        rest(x, 0, 49, 0, 256, 1, 0);
        x = new Land();
        for (int c = 0; c < 256; c += 2) {
            x.sound(c + c / 16 % 2, 60, 60);
        }
        rest(x, 0, 50, 0, 128, 128, 128);
        rest(x, 0, 60, 0, 128, 128, 128);
        rest(x, 0, 61, 0, 0, 0, 256);
    }

    private static void restWrongly() {
        Edge.promise(21, "REST (what 0), ISLES (1), CELLS that are GONE (2). NONE: none such.");
        Land x = coastland();
        for (int what = 0; what <= 2; what++) {
            int due = what == 0 ? 255 : what == 1 ? 1 : 0;
            Edge.due("rest(-1, 5, 0, " + what + ")", x.rest(-1, 5, 0, what), -1);
            Edge.due("rest(99, 5, 0, " + what + ")", x.rest(99, 5, 0, what), due);
            Edge.due("rest(100, 5, 0, " + what + ")", x.rest(100, 5, 0, what), -1);
            Edge.due("rest(10, 0, 0, " + what + ")", x.rest(10, 0, 0, what), -1);
            Edge.due("rest(10, 1, 0, " + what + ")", x.rest(10, 1, 0, what), due);
            Edge.due("rest(10, 99, 20, " + what + ")", x.rest(10, 99, 20, what) >= 0, true);
            Edge.due("rest(10, 100, 0, " + what + ")", x.rest(10, 100, 0, what), -1);
            Edge.due("rest(10, 5, -1, " + what + ")", x.rest(10, 5, -1, what), -1);
            Edge.due("rest(10, 5, 20, " + what + ")", x.rest(10, 5, 20, what), due);
            Edge.due("rest(10, 5, 21, " + what + ")", x.rest(10, 5, 21, what), -1);
        }
        Edge.due("rest(10, 5, 0, -1)", x.rest(10, 5, 0, -1), -1);
        Edge.due("rest(10, 5, 0, 3)", x.rest(10, 5, 0, 3), -1);
        Edge.due("rest(0, 1, 0, 0)", x.rest(0, 1, 0, 0), 256);
    }

    private static void mud() {
        Edge.promise(22, "MUD of a CELL (told again: the last holds): how many CELLS have some told.");
        Land x = new Land();
        Edge.due("mud(5, true)", x.mud(5, true), 1);
        Edge.due("cell(5, 10)", x.cell(5, 10), 1);
        Edge.due("mud(5, false)", x.mud(5, false), 1);
        Edge.due("cell(5, 10)", x.cell(5, 10), 0);
        Edge.due("mud(5, true)", x.mud(5, true), 1);
        Edge.due("cell(5, 10)", x.cell(5, 10), 1);
        Edge.due("cell(4, 10)", x.cell(4, 10), -1);
        Edge.due("cell(6, 10)", x.cell(6, 10), -1);
        Edge.promise(22, "NONE, doing nothing but REFUSED: no such CELL, 40 others have (no room).");
        Edge.due("mud(-1, true)", x.mud(-1, true), -1);
        Edge.due("mud(0, false)", x.mud(0, false), 2);
        Edge.due("mud(255, true)", x.mud(255, true), 3);
        Edge.due("mud(256, true)", x.mud(256, true), -1);
        Edge.due("REFUSED not as told", x.count(8), 2);
        Edge.due("REFUSED for room", x.count(9), 0);
        Edge.due("CELLS with MUD", x.count(5), 3);
    }

    private static void mudFull() {
        Edge.terms(3, "MUD of CELLS (wet or not; up to 40)");
        Land x = new Land();
        for (int c = 0; c < 39; c++) {
            Edge.due("mud, the " + (c + 1) + "th CELL", x.mud(c, c % 2 == 0), c + 1);
        }
        Edge.due("with 38 others", x.mud(38, true), 39);
        Edge.due("the 40th", x.mud(100, true), 40);
        Edge.due("the 41st", x.mud(101, true), -1);
        Edge.due("the 41st", x.mud(102, false), -1);
        Edge.due("none of it", x.cell(101, 10), -1);
        Edge.due("the first again, as 39 others have", x.mud(0, false), 40);
        Edge.due("cell(0, 10)", x.cell(0, 10), 0);
        Edge.due("the 40th again", x.mud(100, false), 40);
        Edge.due("cell(100, 10)", x.cell(100, 10), 0);
        Edge.due("REFUSED for room", x.count(9), 2);
        Edge.due("no such CELL", x.mud(256, true), -1);
        Edge.due("REFUSED not as told", x.count(8), 1);
        Edge.due("REFUSED for room", x.count(9), 2);
        Edge.due("CELLS with MUD", x.count(5), 40);
    }

    private static void height(Land x, String with, int age, int drop, int least, int greatest, int many) {
        Edge.due("height(" + age + ", " + drop + ", 0) " + with, x.height(age, drop, 0), least);
        Edge.due("height(" + age + ", " + drop + ", 1) " + with, x.height(age, drop, 1), greatest);
        Edge.due("height(" + age + ", " + drop + ", 2) " + with, x.height(age, drop, 2), many);
    }

    private static void leastAndGreatest() {
        Edge.terms(3, "of all heights 1 to 99 with the DROP the least and greatest with which each wet one that is LAND then is GONE "
                + "and each other one isn't.");
        Land x = new Land();
        height(x, "without MUD", 0, 0, 1, 99, 99);
        x.mud(1, true);
        int[] high = {99, 98, 97, 50, 1};
        int[] least = {-1, 99, 98, 51, 2};
        for (int i = 0; i < high.length; i++) {
            x.sound(1, high[i], high[i]);
            height(x, "wet at " + high[i], 0, 0, least[i], least[i] < 0 ? -1 : 99, least[i] < 0 ? 0 : 100 - least[i]);
        }
        x.sound(1, 0, 1);
        height(x, "wet at 0", 0, 0, 1, 99, 99);
        x = new Land();
        x.mud(1, false);
        for (int i = 0; i < high.length; i++) {
            x.sound(1, high[i], high[i]);
            height(x, "not wet at " + high[i], 0, 0, 1, high[i], high[i]);
        }
        x.sound(1, 0, 1);
        height(x, "not wet at 0", 0, 0, -1, -1, 0);
        x = new Land();
        x.mud(1, true);
        x.mud(2, false);
        int[] wet = {29, 30, 31, 28};
        for (int w : wet) {
            x.sound(1, w, w);
            x.sound(2, 30, 30);
            height(x, "wet at " + w + ", not wet at 30", 0, 0, w < 30 ? w + 1 : -1, w < 30 ? 30 : -1, Math.max(0, 30 - w));
        }
        x.sound(1, 20, 20);
        x.sound(3, 25, 25);
        x.mud(3, true);
        height(x, "wet at 20 and 25, not wet at 30", 0, 0, 26, 30, 5);
        x.sound(4, 28, 28);
        x.mud(4, false);
        height(x, "wet at 20 and 25, not wet at 30 and 28", 0, 0, 26, 28, 3);
    }

    private static void mudAtSea() {
        Edge.terms(3, "of all heights 1 to 99 with the DROP the least and greatest with which each wet one that is LAND then is GONE "
                + "and each other one isn't.");
        Land x = coastland();
        x.mud(0, true);
        height(x, "wet at sea", 10, 0, 1, 99, 99);
        height(x, "wet on LAND an AGE earlier, 30 high", 9, 0, 31, 99, 69);
        x.mud(0, false);
        height(x, "not wet at sea", 10, 0, 1, 99, 99);
        height(x, "not wet on LAND an AGE earlier, 30 high", 9, 0, 1, 30, 30);
        x.sound(0, 30, 31);
        height(x, "not wet on LAND 0 high", 10, 0, -1, -1, 0);
        x.mud(0, true);
        height(x, "wet on LAND 0 high", 10, 0, 1, 99, 99);
    }

    private static void mudAndDrop() {
        Edge.terms(3, "of all heights 1 to 99 with the DROP the least and greatest with which each wet one that is LAND then is GONE "
                + "and each other one isn't.");
        Land x = coastland();
        x.mud(1, true);
        height(x, "wet one step off", 10, 0, 20, 99, 80);
        height(x, "wet one step off", 10, 1, 21, 99, 79);
        height(x, "wet one step off", 10, 20, 40, 99, 60);
        x.mud(3, false);
        height(x, "and not wet three steps off", 10, 0, -1, -1, 0);
        height(x, "and not wet three steps off", 10, 1, 21, 22, 2);
        height(x, "and not wet three steps off", 10, 20, 40, 79, 40);
        x.mud(4, true);
        height(x, "and wet four steps off", 10, 20, -1, -1, 0);
        x.mud(3, true);
        height(x, "wet up to four steps off", 10, 19, 96, 99, 4);
        height(x, "wet up to four steps off: 99", 10, 20, -1, -1, 0);
    }

    private static void heightWrongly() {
        Edge.promise(23, "How high the WAVE at an AGE was by MUD: the least (what 0), the greatest (1), how many heights (2). "
                + "NONE: none such; of what 0, 1: no height.");
        Land x = new Land();
        for (int what = 0; what <= 2; what++) {
            int due = what == 0 ? 1 : 99;
            Edge.due("height(-1, 0, " + what + ")", x.height(-1, 0, what), -1);
            Edge.due("height(0, 0, " + what + ")", x.height(0, 0, what), due);
            Edge.due("height(99, 20, " + what + ")", x.height(99, 20, what), due);
            Edge.due("height(100, 0, " + what + ")", x.height(100, 0, what), -1);
            Edge.due("height(0, -1, " + what + ")", x.height(0, -1, what), -1);
            Edge.due("height(0, 21, " + what + ")", x.height(0, 21, what), -1);
        }
        Edge.due("height(0, 0, -1)", x.height(0, 0, -1), -1);
        Edge.due("height(0, 0, 3)", x.height(0, 0, 3), -1);
        x.mud(1, true);
        x.mud(2, false);
        height(x, "wet and not wet alike", 0, 0, -1, -1, 0);
    }

    private static void places() {
        Edge.terms(3, "PLACES, up to 10 CELLS, to lay BUCKETS at an AGE.");
        Land x = new Land();
        for (int p = 0; p < 9; p++) {
            Edge.due("place, number " + p, x.place(20 * p), p);
        }
        Edge.due("the tenth", x.place(255), 9);
        Edge.due("the eleventh", x.place(254), -1);
        Edge.due("REFUSED for room", x.count(9), 1);
        Edge.due("it's none", x.cell(254, 9), 0);
        Edge.promise(24, "A PLACE: its number. NONE, doing nothing but REFUSED: no such CELL, it is one, 10 are there "
                + "(no room only if it is no PLACE yet).");
        Edge.due("one of ten again", x.place(255), -1);
        Edge.due("one of ten again", x.place(0), -1);
        Edge.due("REFUSED not as told", x.count(8), 2);
        Edge.due("no such CELL with ten", x.place(256), -1);
        Edge.due("REFUSED not as told", x.count(8), 3);
        Edge.due("REFUSED for room", x.count(9), 1);
        Edge.due("PLACES", x.count(4), 10);
        x = new Land();
        Edge.due("place(-1)", x.place(-1), -1);
        Edge.due("place(256)", x.place(256), -1);
        Edge.due("PLACES", x.count(4), 0);
        Edge.due("place(0)", x.place(0), 0);
        Edge.due("place(0) again", x.place(0), -1);
        Edge.due("place(255)", x.place(255), 1);
        Edge.due("place(255) again", x.place(255), -1);
        Edge.due("place(1)", x.place(1), 2);
        Edge.due("REFUSED not as told", x.count(8), 4);
        Edge.due("REFUSED for room", x.count(9), 0);
    }

    private static void nothingCut() {
        Edge.terms(3, "NOTHING at one with so many laid: 1,000,000 less its LEFT in millionths (cut), "
                + "and LEFT's times (10 less c) by 10 for each BUCKET laid there (cut once).");
        Land x = Check.under("catch 1;");
        x.place(0);
        x.dry(0, false);
        // LEFT 1 by 3: 333333; times 9 by 10 is 299999.7
        Edge.due("LEFT 1 by 3, \"catch\" 1, one laid", x.ship(1, 0, 0), 1000000 - (666667 + 299999));
        Check.law(x, "catch 2;");
        // times 64 by 100 is 213333.12; cut at each BUCKET it were 213332
        Edge.due("LEFT 1 by 3, \"catch\" 2, two laid", x.ship(2, 0, 0), 1000000 - (666667 + 213333));
        Check.law(x, "catch 0;");
        Edge.due("\"catch\" 0, six laid", x.ship(6, 0, 0), 0);
        Check.law(x, "catch 10;");
        Edge.due("\"catch\" 10, one laid", x.ship(1, 0, 0), 333333);
        Edge.due("\"catch\" 10, six laid", x.ship(6, 0, 0), 333333);
        Check.law(x, "catch 9;");
        Edge.due("\"catch\" 9, six laid", x.ship(6, 0, 0), 333333);
        Edge.due("\"catch\" 9, five laid", x.ship(5, 0, 0), 333333 - 3);
        x = Check.under("catch 5;");
        x.place(0);
        x.dry(0, true);
        // LEFT 2 by 3: 666666 and the half of that
        Edge.due("LEFT 2 by 3, \"catch\" 5, one laid", x.ship(1, 0, 0), 1000000 - (333334 + 333333));
        x = Check.under("catch 9;");
        x.place(0);
        x.bucket(0, 8);
        // LEFT 1 by 100000001 is no millionth
        Edge.due("LEFT below a millionth", x.ship(6, 0, 0), 0);
        Edge.due("at sea", atSea().ship(6, 0, 0), 0);
        Edge.due("at sea all are laid at the first", atSea().ship(6, 0, 10), 6);
    }

    private static Land atSea() {
        Land x = Check.under(ALL_AT_SEA + "catch 5;");
        x.place(3);
        x.place(4);
        return x;
    }

    private static void odds() {
        Edge.terms(3, "ODDS of a way to lay n (1 to 6) of them: 1,000,000 less what all PLACES by numbers leave of 1,000,000: "
                + "times NOTHING by 1,000,000, cut each time.");
        Land x = Check.under("catch 10;");
        x.dry(0, false);
        int[] due = {333333, 555556, 703704, 802470};
        for (int p = 0; p < 4; p++) {
            x.place(p);
            // 666667, 444444.9, 296296.1 of 444444, 197530.8 of 296296: cut at the end alone the last were 197531
            Edge.due("one each at " + (p + 1) + " PLACES of LEFT 1 by 3", x.ship(p + 1, 0, 0), due[p]);
            Edge.due("one at PLACE " + p, x.ship(p + 1, 0, 10 + p), 1);
        }
        Edge.due("six at four PLACES", x.ship(6, 0, 0), 802470);
        Edge.due("three in the first", x.ship(6, 0, 10), 3);
    }

    private static void oddsInOrder() {
        Edge.terms(3, "ODDS of a way to lay n (1 to 6) of them: 1,000,000 less what all PLACES by numbers leave of 1,000,000: "
                + "times NOTHING by 1,000,000, cut each time.");
        // the same three CELLS, but as each cut is at another place the last digit is another one
        int[][] orders = {{0, 1, 2}, {1, 2, 0}};
        int[] due = {137870, 137871};
        for (int i = 0; i < 2; i++) {
            Land x = Check.under("catch 1;");
            x.bucket(1, 1);
            x.bucket(2, 1);
            for (int cell : orders[i]) {
                x.place(cell);
            }
            Edge.due("PLACES " + orders[i][0] + ", " + orders[i][1] + ", " + orders[i][2], x.ship(3, 0, 0), due[i]);
            for (int p = 0; p < 3; p++) {
                Edge.due("one at PLACE " + p, x.ship(3, 0, 10 + p), 1);
            }
        }
    }

    private static void way(Land x, int n, int... due) {
        for (int p = 0; p < due.length; p++) {
            Edge.due("ship(" + n + ", 0, " + (10 + p) + ")", x.ship(n, 0, 10 + p), due[p]);
        }
    }

    private static void firstOfSeveral() {
        Edge.terms(3, "The way with the most (of several the first: those with more in the first PLACE, then the second ahead).");
        Land x = Check.under("catch 0;");
        x.place(7);
        x.place(8);
        x.place(9);
        way(x, 1, 1, 0, 0);
        way(x, 6, 6, 0, 0);
        Check.law(x, "catch 10;");
        way(x, 1, 1, 0, 0);
        way(x, 2, 1, 1, 0);
        way(x, 3, 1, 1, 1);
        way(x, 4, 2, 1, 1);
        way(x, 6, 4, 1, 1);
        Check.law(x, "catch 5;");
        way(x, 1, 1, 0, 0);
        way(x, 2, 1, 1, 0);
        way(x, 4, 2, 1, 1);
        way(x, 5, 2, 2, 1);
        way(x, 6, 2, 2, 2);
        x.bucket(7, 1);
        // LEFT of the first 1 by 3, of the others 1 by 2
        way(x, 1, 0, 1, 0);
        way(x, 2, 0, 1, 1);
        way(x, 3, 1, 1, 1);
        x.bucket(8, 1);
        way(x, 1, 0, 0, 1);
        way(x, 2, 1, 0, 1);
        x = Check.under("catch 10;");
        for (int p = 0; p < 10; p++) {
            x.place(p);
        }
        way(x, 6, 1, 1, 1, 1, 1, 1, 0, 0, 0, 0);
        x.bucket(0, 1);
        way(x, 6, 0, 1, 1, 1, 1, 1, 1, 0, 0, 0);
        way(x, 1, 0, 1, 0, 0, 0, 0, 0, 0, 0, 0);
    }

    /** What was answered ahead of a telling isn't answered behind it. */
    private static void shipAgain() {
        Edge.promise(25, "The way to lay n BUCKETS: its ODDS (what 0), 10 + p how many at PLACE p.");
        Land x = Check.under("catch 10;sea 50 49 to 50;");
        x.place(0);
        Edge.due("LEFT 1 by 2", x.ship(1, 0, 0), 500000);
        Edge.due("another AGE: at sea", x.ship(1, 50, 0), 0);
        Edge.due("the AGE ahead of it", x.ship(1, 49, 0), 500000);
        x.dry(0, true);
        Edge.due("LEFT 2 by 3 after dry", x.ship(1, 49, 0), 666666);
        x.place(1);
        x.bucket(0, 1);
        Edge.due("none LEFT at the first after bucket", x.ship(1, 49, 10), 0);
        Edge.due("LEFT 2 by 3 at the second after place", x.ship(1, 49, 11), 1);
        x.image();
        x.sound(17, 0, 0);
        // CELLS 0 and 1 are nearer than three steps to the sea now: of KIND 2 without DRY places
        Edge.due("LEFT 1 by 2 after sound", x.ship(1, 49, 0), 500000);
        x.restore(0);
        Edge.due("LEFT 2 by 3 after restore", x.ship(1, 49, 0), 666666);
        Check.law(x, "catch 5;");
        // 666666 and 666666 by 2 at the second, 500000 and less at the first
        Edge.due("\"catch\" 5 after law", x.ship(1, 49, 0), 333333);
        Check.law(x, "catch 0;");
        Edge.due("\"catch\" 0 after law", x.ship(1, 49, 0), 0);
        Edge.due("all at the first then", x.ship(1, 49, 10), 1);
        Edge.due("another n", x.ship(2, 49, 10), 2);
        Check.law(x, "catch 10;");
        Edge.due("\"catch\" 10 after law", x.ship(2, 49, 0), 666666);
        x.place(2);
        Edge.due("after place once more", x.ship(2, 49, 0), 888889);
        Edge.due("after place once more", x.ship(2, 49, 12), 1);
        Edge.due("another n", x.ship(1, 49, 12), 0);
    }

    private static void shipWrongly() {
        Edge.promise(25, "The way to lay n BUCKETS: its ODDS (what 0), 10 + p how many at PLACE p. NONE: none such, no PLACES.");
        Land x = Check.under("catch 5;");
        Edge.due("without PLACES", x.ship(1, 0, 0), -1);
        Edge.due("without PLACES", x.ship(1, 0, 10), -1);
        x.place(0);
        x.place(1);
        int[] what = {Integer.MIN_VALUE, -1, 0, 1, 2, 9, 10, 11, 12, 19, 20, Integer.MAX_VALUE};
        int[] due = {-1, -1, 250000, -1, -1, -1, 1, 0, -1, -1, -1, -1};
        for (int i = 0; i < what.length; i++) {
            Edge.due("ship(1, 0, " + what[i] + ")", x.ship(1, 0, what[i]), due[i]);
        }
        Edge.due("ship(0, 0, 0)", x.ship(0, 0, 0), -1);
        Edge.due("ship(-1, 0, 0)", x.ship(-1, 0, 0), -1);
        // three at each of them leave 562500 by a million; twice that is 316406.25
        Edge.due("ship(6, 99, 0)", x.ship(6, 99, 0), 1000000 - 316406);
        Edge.due("ship(7, 0, 0)", x.ship(7, 0, 0), -1);
        Edge.due("ship(1, -1, 0)", x.ship(1, -1, 0), -1);
        Edge.due("ship(1, 99, 0)", x.ship(1, 99, 0), 250000);
        Edge.due("ship(1, 100, 0)", x.ship(1, 100, 0), -1);
        for (int p = 2; p < 10; p++) {
            Edge.due("PLACE " + p + " yet to be told", x.ship(1, 0, 10 + p), -1);
            x.place(p);
            Edge.due("PLACE " + p + " told", x.ship(1, 0, 10 + p), 0);
        }
        Edge.due("ship(1, 0, 20) with ten", x.ship(1, 0, 20), -1);
    }

    private static void doubt() {
        Edge.terms(3, "DOUBT: the PLACE with LEFT nearest to a half (of several the first).");
        // CELL 100 is of KIND 0, 1 of KIND 2 and at the coast; 0 is at sea with LEFT 0
        Land x = Check.under("sea 0 10;");
        x.sound(0, 0, 0);
        x.dry(0, false);
        x.dry(2, true);
        x.place(100);
        x.place(1);
        Edge.due("1 by 3 and 2 by 3: the first", x.doubt(0), 0);
        x.dry(2, true);
        Edge.due("1 by 3 and 3 by 4: the first", x.doubt(0), 0);
        x.dry(0, false);
        x.dry(0, false);
        Edge.due("1 by 5 and 3 by 4: the second", x.doubt(0), 1);
        x.dry(2, true);
        Edge.due("1 by 5 and 4 by 5: the first", x.doubt(0), 0);
        x = Check.under("sea 0 10;");
        x.sound(0, 0, 0);
        x.dry(2, true);
        x.place(1);
        x.place(100);
        Edge.due("2 by 3 and 1 by 2", x.doubt(0), 1);
        x = Check.under("sea 0 10;");
        x.sound(0, 0, 0);
        x.dry(0, false);
        x.dry(2, true);
        x.place(1);
        x.place(100);
        Edge.due("2 by 3 and 1 by 3: the first", x.doubt(0), 0);
        x = Check.under("sea 0 10;catch 10;");
        x.sound(0, 0, 0);
        x.place(0);
        x.place(100);
        x.bucket(100, 1);
        Edge.due("0 at sea and 0 by a sure catch: the first", x.doubt(0), 0);
        x.place(101);
        Edge.due("and a half", x.doubt(0), 2);
        x.place(102);
        Edge.due("and one more half", x.doubt(0), 2);
    }

    /** LEFT of so many CAMPS and 1 by so many DRY places and 2, at each of two PLACES of other KINDS. */
    private static void doubtOfMany() {
        Edge.terms(3, "DOUBT: the PLACE with LEFT nearest to a half (of several the first).");
        for (int all = 0; all <= 6; all++) {
            for (int camps = 0; camps <= all; camps++) {
                for (int allOther = 0; allOther <= 6; allOther++) {
                    for (int campsOther = 0; campsOther <= allOther; campsOther++) {
                        Land x = Check.under("sea 0 10;");
                        x.sound(0, 0, 0);
                        for (int i = 0; i < all; i++) {
                            x.dry(2, i < camps);
                        }
                        for (int i = 0; i < allOther; i++) {
                            x.dry(0, i < campsOther);
                        }
                        x.place(1);
                        x.place(100);
                        // how far twice LEFT is from 1, each times the other's lower number
                        int off = Math.abs(2 * (camps + 1) - all - 2) * (allOther + 2);
                        int offOther = Math.abs(2 * (campsOther + 1) - allOther - 2) * (all + 2);
                        Edge.due("LEFT " + (camps + 1) + " by " + (all + 2) + " and " + (campsOther + 1) + " by " + (allOther + 2),
                                x.doubt(0), offOther < off ? 1 : 0);
                    }
                }
            }
        }
    }

    private static void doubtWrongly() {
        Edge.promise(38, "DOUBT: its number. NONE: none such, no PLACES.");
        Land x = new Land();
        Edge.due("without PLACES", x.doubt(0), -1);
        x.place(9);
        Edge.due("doubt(-1)", x.doubt(-1), -1);
        Edge.due("doubt(0)", x.doubt(0), 0);
        Edge.due("doubt(99)", x.doubt(99), 0);
        Edge.due("doubt(100)", x.doubt(100), -1);
        for (int p = 1; p < 10; p++) {
            x.place(9 + p);
            x.bucket(9 + p - 1, 1);
        }
        Check.law(x, "catch 1;");
        Edge.due("the last of ten", x.doubt(0), 9);
    }
}
