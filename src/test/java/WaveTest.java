/** Promises 20 (gone), 21 (rest), 22 (mud), 23 (height). */
public final class WaveTest {
    private WaveTest() {
    }

    public static void main(String[] args) {
        going();
        resting();
        tellingMud();
        measuring();
        Check.end("WaveTest");
    }

    /** The west column at sea from AGE 10 on; all other LAND 20 high. */
    private static Land coastland() {
        Land x = Check.under("sea 10 30;");
        for (int c = 0; c < 256; c++) {
            x.sound(c, c % 16 == 0 ? 30 : 50, c % 16 == 0 ? 30 : 50);
        }
        return x;
    }

    private static void going() {
        Land x = coastland();
        Check.due("height 20, coast 1", x.gone(1, 10, 21, 0), 1);
        Check.due("as high as it is", x.gone(1, 10, 20, 0), 0);
        Check.due("a DROP of 5", x.gone(1, 10, 26, 5), 1);
        Check.due("a DROP of 5", x.gone(1, 10, 25, 5), 0);
        Check.due("coast 3", x.gone(3, 10, 36, 5), 1);
        Check.due("coast 3", x.gone(3, 10, 35, 5), 0);
        Check.due("at sea", x.gone(0, 10, 99, 0), -1);
        Check.due("no coast: 99 steps", x.gone(1, 0, 99, 1), 0);
        Check.due("no coast, no DROP", x.gone(1, 0, 99, 0), 1);
        Check.due("high 0", x.gone(1, 10, 0, 0), -2);
        Check.due("high 100", x.gone(1, 10, 100, 0), -2);
        Check.due("DROP -1", x.gone(1, 10, 5, -1), -2);
        Check.due("DROP 21", x.gone(1, 10, 5, 21), -2);
        Check.due("DROP 20", x.gone(1, 10, 41, 20), 1);
        Check.due("CELL 256", x.gone(256, 10, 5, 0), -2);
        Check.due("CELL -1", x.gone(-1, 10, 5, 0), -2);
        Check.due("AGE 100", x.gone(1, 100, 5, 0), -2);
        Check.due("a wrong call at sea", x.gone(0, 10, 100, 0), -2);
    }

    private static void resting() {
        Land x = coastland();
        Check.due("two columns are GONE", x.rest(10, 31, 5, 2), 32);
        Check.due("the others stay", x.rest(10, 31, 5, 0), 240 - 32);
        Check.due("in one", x.rest(10, 31, 5, 1), 1);
        Check.due("all GONE", x.rest(10, 99, 0, 0), 0);
        Check.due("in none", x.rest(10, 99, 0, 1), 0);
        Check.due("all GONE", x.rest(10, 99, 0, 2), 240);
        x.sound(1, 60, 60);
        x.sound(18, 60, 60);
        x.sound(19, 60, 60);
        Check.due("two hills beside corners", x.rest(10, 25, 0, 0), 3);
        Check.due("hang together by sides alone", x.rest(10, 25, 0, 1), 2);
        Check.due("what 3", x.rest(10, 25, 0, 3), -1);
        Check.due("what -1", x.rest(10, 25, 0, -1), -1);
        Check.due("high 0", x.rest(10, 0, 0, 0), -1);
        Check.due("high 100", x.rest(10, 100, 0, 0), -1);
        Check.due("DROP 21", x.rest(10, 25, 21, 0), -1);
        Check.due("DROP -1", x.rest(10, 25, -1, 0), -1);
        Check.due("AGE 100", x.rest(100, 25, 0, 0), -1);
    }

    private static void tellingMud() {
        Land x = new Land();
        Check.due("CELL -1", x.mud(-1, true), -1);
        Check.due("CELL 256", x.mud(256, true), -1);
        Check.due("not as told", x.count(8), 2);
        for (int c = 0; c < 40; c++) {
            Check.due("mud", x.mud(c, true), c + 1);
        }
        Check.due("the 41st", x.mud(40, true), -1);
        Check.due("no room", x.count(9), 1);
        Check.due("told again", x.mud(7, false), 40);
        Check.due("the last holds", x.cell(7, 10), 0);
        Check.due("wet", x.cell(8, 10), 1);
        Check.due("none told", x.cell(40, 10), -1);
        Check.due("how many", x.count(5), 40);
        Check.due("CELL 256 without room", x.mud(256, true), -1);
        Check.due("not as told", x.count(8), 3);
    }

    private static void measuring() {
        Land x = coastland();
        Check.due("no MUD", x.height(10, 5, 0), 1);
        Check.due("no MUD", x.height(10, 5, 1), 99);
        Check.due("no MUD", x.height(10, 5, 2), 99);
        x.mud(2, true);
        Check.due("wet at coast 2: above 30", x.height(10, 5, 0), 31);
        x.mud(4, false);
        Check.due("dry at coast 4: up to 40", x.height(10, 5, 1), 40);
        Check.due("so many", x.height(10, 5, 2), 10);
        x.mud(3, true);
        x.sound(4, 46, 46);
        Check.due("36 at least", x.height(10, 5, 0), 36);
        Check.due("36 at most", x.height(10, 5, 1), 36);
        Check.due("one height", x.height(10, 5, 2), 1);
        x.mud(3, false);
        x.sound(4, 50, 50);
        x.sound(3, 99, 99);
        Check.due("without a DROP both stand alike", x.height(10, 0, 0), -1);
        Check.due("none", x.height(10, 0, 1), -1);
        Check.due("none", x.height(10, 0, 2), 0);
        x.mud(0, true);
        Check.due("wet at sea says nothing", x.height(10, 5, 2), 10);
        x.mud(16, false);
        Check.due("dry at sea says nothing", x.height(10, 5, 2), 10);
        Check.due("at another AGE wet means GONE", x.height(0, 0, 0), -1);
        x.mud(15, true);
        Check.due("coast 15 with 20: above 99", x.height(10, 20, 2), 0);
        Check.due("AGE 100", x.height(100, 5, 0), -1);
        Check.due("DROP 21", x.height(10, 21, 0), -1);
        Check.due("DROP -1", x.height(10, -1, 0), -1);
        Check.due("what 3", x.height(10, 5, 3), -1);
        Check.due("what -1", x.height(10, 5, -1), -1);
    }
}
