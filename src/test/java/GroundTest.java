/** Promises 1 (a new object), 2 (sound), 7 (cell), 8 (asked), 9 (shore), 10 (alone), 32 (ford), 33 (ends). */
public final class GroundTest {
    private GroundTest() {
    }

    public static void main(String[] args) {
        newObject();
        sounding();
        sinking();
        flowing();
        sureRivers();
        goingUnder();
        anAge();
        words();
        kinds();
        islands();
        fords();
        wrong();
        Check.end("GroundTest");
    }

    private static void newObject() {
        int[] due = {0, 99, 0, -1, 1, 0, 0, 100, 0, 0, -1};
        for (int what = 0; what <= 10; what++) {
            Land each = new Land();
            for (int c = 0; c < 256; c++) {
                Check.due("cell(" + c + ", " + what + ")", each.cell(c, what), due[what]);
            }
        }
        Land x = new Land();
        for (int what = 0; what <= 15; what++) {
            Check.due("count " + what, x.count(what), 0);
        }
        Check.due("NONE", Land.NONE, -1);
    }

    static void flat(Land x, int low, int high) {
        for (int c = 0; c < 256; c++) {
            x.sound(c, low, high);
        }
    }

    private static void sounding() {
        Land x = new Land();
        Check.due("0 to 0", x.sound(0, 0, 0), true);
        Check.due("99 to 99", x.sound(255, 99, 99), true);
        Check.due("low", x.cell(255, 0), 99);
        Check.due("high", x.cell(0, 1), 0);
        Check.due("told again", x.sound(255, 4, 5), true);
        Check.due("the last holds", x.cell(255, 1), 5);
        Check.due("high below low", x.sound(255, 6, 5), false);
        Check.due("low -1", x.sound(255, -1, 5), false);
        Check.due("high 100", x.sound(255, 4, 100), false);
        Check.due("low 100", x.sound(255, 100, 100), false);
        Check.due("CELL 256", x.sound(256, 4, 5), false);
        Check.due("CELL -1", x.sound(-1, 4, 5), false);
        Check.due("REFUSED", x.count(8), 6);
        Check.due("nothing done", x.cell(255, 0), 4);
    }

    private static void sinking() {
        Land x = Check.under("sink 30 if x=1;");
        x.sound(1, 60, 80);
        Check.due("low and SUNK", x.cell(1, 0), 90);
        Check.due("held to 99", x.cell(1, 1), 99);
        Check.due("SUNK", x.cell(1, 2), 30);
        x.sound(17, 80, 95);
        Check.due("low held to 99", x.cell(17, 0), 99);
        Check.due("height by these", x.asked(1, 0, 1), 94);
        Check.due("another column", x.cell(2, 2), 0);
    }

    private static void flowing() {
        Land x = new Land();
        flat(x, 50, 50);
        x.sound(34, 60, 60);
        x.sound(33, 40, 40);
        x.sound(35, 40, 40);
        x.sound(50, 40, 40);
        x.sound(18, 40, 40);
        Check.due("of several the least number", x.cell(34, 3), 18);
        x.sound(35, 40, 39);
        x.sound(35, 39, 40);
        Check.due("the least MIDDLE", x.cell(34, 3), 35);
        Check.due("alike is not below", x.cell(0, 3), -1);
        Check.due("nobody comes through", x.cell(34, 4), 1);
        // beside 35: 19, 36, 51 and 34 flow in; 19 goes to 18 (lower by less) or to 35?
        Check.due("19 lies beside 18 and 35", x.cell(19, 3), 35);
        Check.due("river of 35: itself, 34, 36, 51, 19", x.cell(35, 4), 5);
        Check.due("no wrapping at the edge", x.cell(16, 3), -1);
        x.sound(15, 10, 10);
        Check.due("CELL 16 isn't BESIDE 15", x.cell(16, 3), -1);
        Check.due("CELL 14 is", x.cell(14, 3), 15);
        Check.due("END", x.ends(34, 0), 35);
        Check.due("CELLS with it", x.ends(34, 1), 5);
        Check.due("END of itself", x.ends(100, 0), 100);
        Check.due("alone", x.ends(100, 1), 1);
        flowingToOne();
    }

    private static void flowingToOne() {
        Land x = new Land();
        for (int c = 0; c < 256; c++) {
            x.sound(c, 99 - c % 16 - c / 16, 99 - c % 16 - c / 16);
        }
        Check.due("all the water at one CELL: 99 at most", x.cell(255, 4), 99);
        Check.due("all have that END", x.ends(0, 1), 256);
        Check.due("where", x.ends(0, 0), 255);
        Check.due("a tie on the way: to the east first", x.cell(0, 3), 1);
        Check.due("the east edge gathers row by row", x.cell(47, 4), 48);
        Check.due("98 or more are 99", x.cell(6 * 16 + 15, 4), 99);
    }

    private static void sureRivers() {
        Land x = new Land();
        flat(x, 50, 60);
        x.sound(34, 70, 80);
        x.sound(35, 20, 50);
        Check.due("others' low like that high", x.cell(34, 5), 1);
        x.sound(35, 20, 51);
        Check.due("others' low below that high", x.cell(34, 5), 0);
        x = new Land();
        flat(x, 70, 70);
        x.sound(34, 71, 90);
        x.sound(35, 10, 70);
        Check.due("high just below low", x.cell(34, 5), 1);
        x.sound(34, 70, 90);
        Check.due("high like low", x.cell(34, 5), 0);
        Check.due("it FLOWS nowhere", x.cell(35, 5), 0);
        x.sound(33, 69, 99);
        x.sound(34, 71, 90);
        Check.due("one other low below", x.cell(34, 5), 0);
        x.sound(33, 70, 99);
        Check.due("like again", x.cell(34, 5), 1);
    }

    private static void goingUnder() {
        Land x = Check.under("sea 10 20 to 30;sea 20 40;sea 30 5;sink 10 if x=1;");
        x.sound(0, 30, 40);
        Check.due("first AGE", x.cell(0, 6), 10);
        Check.due("last AGE", x.cell(0, 7), 20);
        x.sound(0, 31, 41);
        Check.due("first AGE", x.cell(0, 6), 20);
        Check.due("none", x.cell(0, 7), 100);
        x.sound(1, 20, 30);
        Check.due("SUNK counts", x.cell(1, 6), 10);
        Check.due("SUNK counts", x.cell(1, 7), 20);
        x.sound(0, 0, 0);
        Check.due("at once", x.cell(0, 6), 0);
        Check.due("at once", x.cell(0, 7), 0);
    }

    private static void anAge() {
        Land x = Check.under("sea 10 20 to 31;sea 20 30 to 40;");
        flat(x, 30, 41);
        x.sound(0, 25, 26);
        x.sound(1, 26, 26);
        Check.due("MIDDLE 51 at 51", x.asked(0, 10, 0), 0);
        Check.due("MIDDLE 52 at 51", x.asked(1, 10, 0), 1);
        Check.due("height cut", x.asked(1, 10, 1), 0);
        Check.due("height at sea", x.asked(0, 10, 1), 0);
        Check.due("height (71 - 51) / 2", x.asked(2, 10, 1), 10);
        Check.due("height (71 - 70) / 2", x.asked(2, 20, 1), 0);
        Check.due("coast at sea", x.asked(0, 10, 2), 0);
        Check.due("coast", x.asked(1, 10, 2), 1);
        Check.due("coast by corners takes two", x.asked(17, 10, 2), 2);
        Check.due("coast far off", x.asked(255, 10, 2), 30);
        Check.due("no sea", x.asked(255, 9, 2), 99);
        Check.due("wind", x.asked(0, 10, 3), 3);
        Check.due("wind: alike don't count", x.asked(2, 10, 3), 0);
        x.sound(18, 10, 10);
        x.sound(1, 10, 10);
        Check.due("wind of seven", x.asked(18, 0, 3), 7);
        x.sound(1, 40, 40);
        Check.due("wind of all eight", x.asked(18, 0, 3), 8);
        Check.due("KIND at sea: coast 0, height 0, wind", x.asked(18, 10, 8), 2 + 4 + 8);
        Check.due("KIND inland, low", x.asked(255, 10, 8), 8);
        Check.due("KIND inland, high", x.asked(255, 0, 8), 0);
        Check.due("SHORE: a corner and one inland", x.shore(10), 6);
        Check.due("SHORE without sea", x.shore(0), 0);
        Check.due("the flat just above", x.shore(20), 6);
    }

    private static void words() {
        Land x = Check.under("sea 50 30;live 1 if x=0 and y=0;live 2 if age=50;live 3 if height=40;live 4 if river=2;"
                + "live 5 if coast=99 and age>97;live 6 if wind>2;fish 7 if coast=0 and height=0;fish 8 if age<50;"
                + "keep 9 if age=51;keep 10 if x=1;");
        flat(x, 60, 60);
        Check.due("x and y", x.asked(0, 10, 5), 1);
        Check.due("age", x.asked(1, 50, 5), 2);
        Check.due("age passed", x.asked(1, 51, 5), 0);
        Check.due("no LIVE at all", x.asked(1, 49, 5), 0);
        Check.due("coast without sea", x.asked(1, 98, 5), 5);
        x.sound(20, 70, 70);
        Check.due("height", x.asked(20, 51, 5), 3);
        x.sound(40, 59, 60);
        x.sound(41, 58, 60);
        Check.due("river of 41: those of 40, 25, 42, 57 and itself", x.cell(41, 4), 8);
        Check.due("river of 40 goes to 41", x.cell(40, 3), 41);
        Check.due("river of 40: 24, 39, 56 and itself", x.cell(40, 4), 4);
        Check.due("wind", x.asked(41, 60, 5), 6);
        x.sound(99, 30, 30);
        Check.due("LIVE at sea", x.asked(99, 50, 5), 0);
        Check.due("FISH at sea", x.asked(99, 50, 6), 7);
        Check.due("FISH on LAND", x.asked(98, 50, 6), 0);
        Check.due("FISH by age", x.asked(98, 49, 6), 8);
        Check.due("KEEP", x.asked(98, 51, 7), 9);
        Check.due("KEEP", x.asked(17, 52, 7), 10);
        Check.due("KEEP else", x.asked(18, 52, 7), 100);
        Check.due("the first that holds", x.asked(17, 51, 7), 9);
    }

    private static void kinds() {
        Land x = Check.under("sea 10 40;sea 20 40 to 42;");
        flat(x, 60, 60);
        Check.due("height 20", x.asked(100, 10, 8), 0);
        Check.due("height 19", x.asked(100, 20, 8), 8);
        x.sound(0, 30, 30);
        Check.due("coast 2", x.asked(2, 10, 8), 2);
        Check.due("coast 3", x.asked(3, 10, 8), 0);
        x.sound(117, 70, 70);
        x.sound(116, 70, 70);
        x.sound(115, 70, 70);
        Check.due("wind 3", x.asked(100, 10, 8), 0);
        x.sound(83, 70, 70);
        Check.due("wind 4", x.asked(100, 10, 8), 4);
        x = new Land();
        for (int c = 0; c < 256; c++) {
            x.sound(c, 60 - c % 16, 60 - c % 16);
        }
        Check.due("river 9", x.asked(88, 0, 8), 0);
        Check.due("river 10", x.asked(89, 0, 8), 1);
    }

    private static void islands() {
        Land x = Check.under("sea 10 40;sea 20 60;sea 30 40;sea 60 99;");
        flat(x, 30, 30);
        x.sound(0, 70, 70);
        x.sound(1, 50, 50);
        x.sound(2, 70, 70);
        x.sound(18, 50, 50);
        x.sound(35, 70, 70);
        Check.due("all", x.asked(0, 0, 4), 256);
        Check.due("0, 1, 2, 18", x.asked(0, 10, 4), 4);
        Check.due("by corners is not BESIDE", x.asked(35, 10, 4), 1);
        Check.due("at sea", x.asked(1, 20, 4), 0);
        Check.due("alone", x.asked(0, 20, 4), 1);
        Check.due("SHORE: 0 two, 2 three, 35 four", x.shore(20), 9);
        Check.due("ALONE at 1 for AGES 20 to 29", x.alone(0, 1, 0), 10);
        Check.due("from", x.alone(0, 1, 1), 20);
        Check.due("ALONE at 4: 10 to 59", x.alone(0, 4, 0), 50);
        Check.due("from", x.alone(0, 4, 1), 10);
        Check.due("35 from 10 to 59", x.alone(35, 1, 0), 50);
        Check.due("1 from 30 to 59 is longest", x.alone(1, 4, 0), 30);
        Check.due("from", x.alone(1, 4, 1), 30);
        Check.due("with 256 from 0", x.alone(1, 256, 0), 30);
        Check.due("1 is never so small", x.alone(1, 3, 0), 0);
        Check.due("from none", x.alone(1, 3, 1), -1);
        Check.law(x, "sea 10 40;sea 20 60;sea 30 40;sea 40 99;");
        Check.due("of several rows the first", x.alone(1, 4, 1), 10);
        Check.due("long", x.alone(1, 4, 0), 10);
        x.sound(18, 30, 30);
        x.sound(2, 30, 30);
        Check.due("sounded just now", x.alone(1, 2, 1), 10);
    }

    private static void fords() {
        Land x = Check.under("sea 50 20;sea 60 59;");
        flat(x, 60, 60);
        // a valley in the third column, from row 15 up to row 0
        for (int y = 0; y < 16; y++) {
            x.sound(16 * y + 2, 20 + 2 * y, 20 + 2 * y);
        }
        Check.due("its water comes from both sides", x.cell(16 * 15 + 2, 4), 3);
        Check.due("and down it", x.cell(2, 4), 48);
        Check.due("CELLS with 40 at least", x.ford(0, 40, -1), 3);
        Check.due("the first", x.ford(0, 40, 0), 2);
        Check.due("the last", x.ford(0, 40, 2), 34);
        Check.due("no more", x.ford(0, 40, 3), -1);
        Check.due("all of them", x.ford(0, 2, -1), 16);
        Check.due("a line as great as the river", x.ford(0, 48, -1), 1);
        Check.due("a line above", x.ford(0, 49, -1), 0);
        Check.due("the lowest goes under", x.ford(50, 40, -1), 2);
        Check.due("only the top of the land is left", x.ford(60, 2, -1), 0);
        x.sound(1, 0, 0);
        Check.due("CELL 2 goes to 1", x.cell(2, 3), 1);
        Check.due("CELL 17 goes to 1", x.cell(17, 3), 1);
        Check.due("CELL 18 keeps what comes down", x.cell(18, 4), 44);
        Check.due("banks that aren't LAND or have a river are none", x.ford(0, 40, -1), 2);
        x.sound(17, 20, 20);
        Check.due("CELL 18 without its west bank", x.ford(50, 40, -1), 1);
        x = new Land();
        flat(x, 60, 60);
        for (int c = 0; c < 16; c++) {
            x.sound(32 + c, 20 + 2 * c, 20 + 2 * c);
        }
        Check.due("to the north and south", x.ford(0, 48, 0), 32);
        x = new Land();
        flat(x, 60, 60);
        for (int c = 0; c < 16; c++) {
            x.sound(c, 20 + 2 * c, 20 + 2 * c);
        }
        Check.due("at the north edge nothing lies north", x.ford(0, 2, -1), 0);
        Check.due("line 1", x.ford(0, 1, -1), -1);
        Check.due("line 100", x.ford(0, 100, -1), -1);
        Check.due("line 99", x.ford(0, 99, -1), 0);
        Check.due("k -2", x.ford(0, 2, -2), -1);
        Check.due("AGE 100", x.ford(100, 2, -1), -1);
    }

    private static void wrong() {
        Land x = new Land();
        Check.due("cell -1", x.cell(-1, 0), -1);
        Check.due("cell 256", x.cell(256, 0), -1);
        Check.due("cell what 11", x.cell(0, 11), -1);
        Check.due("cell what -1", x.cell(0, -1), -1);
        Check.due("asked cell", x.asked(256, 0, 0), -1);
        Check.due("asked age", x.asked(0, 100, 0), -1);
        Check.due("asked age", x.asked(0, -1, 0), -1);
        Check.due("asked what", x.asked(0, 0, 9), -1);
        Check.due("asked what", x.asked(0, 0, -1), -1);
        Check.due("shore", x.shore(100), -1);
        Check.due("shore", x.shore(-1), -1);
        Check.due("alone cell", x.alone(256, 1, 0), -1);
        Check.due("alone most 0", x.alone(0, 0, 0), -1);
        Check.due("alone most 257", x.alone(0, 257, 0), -1);
        Check.due("alone what", x.alone(0, 1, 2), -1);
        Check.due("ends cell", x.ends(-1, 0), -1);
        Check.due("ends what", x.ends(0, 2), -1);
        Check.due("asking isn't REFUSED", x.count(8) + x.count(9) + x.count(10), 0);
    }
}
