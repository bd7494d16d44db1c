/** The edges of CELLS, heights, water, LAND and islands: Terms 1 and 2, promises 1, 2, 7 to 10, 32 and 33. */
final class EdgesOfGround {
    /** All CELLS that aren't sounded otherwise are at sea then: their MIDDLE is 99. */
    private static final String ALL_AT_SEA = "sea 0 49 to 50;";

    private EdgesOfGround() {
    }

    static void tryAll() {
        newObject();
        constants();
        calls();
        ages();
        beside();
        round();
        heights();
        sounding();
        sunkHeights();
        middles();
        land();
        flows();
        flowsAtEdges();
        rivers();
        manyRivers();
        coasts();
        winds();
        underFirst();
        underLast();
        sureOfOne();
        sureOfOthers();
        shores();
        islands();
        alone();
        aloneRows();
        cells();
        asked();
        fords();
        fordBanks();
        fordsAtEdges();
        ends();
    }

    /** A CELL with so great a MIDDLE. */
    private static void middle(Land x, int cell, int middle) {
        x.sound(cell, middle / 2, middle - middle / 2);
    }

    private static void newObject() {
        Edge.promise(1, "All CELLS 0 to 99 high; no LAW.");
        Land x = new Land();
        for (int c = 0; c < 256; c++) {
            Edge.due("cell(" + c + ", 0)", x.cell(c, 0), 0);
            Edge.due("cell(" + c + ", 1)", x.cell(c, 1), 99);
        }
        x = new Land();
        Edge.due("RULES", x.count(0), 0);
        Edge.due("fault()", x.fault(), -1);
        Edge.due("SEA", x.sea(99, 1), 0);
        for (int what = 1; what <= 15; what++) {
            Edge.due("count(" + what + ")", x.count(what), 0);
        }
    }

    private static void constants() {
        // the line stands at the end of "Terms" 3
        Edge.terms(3, "The constants: `NONE = -1`: There is none.");
        Edge.due("NONE", DrownedLand.NONE, -1);
        Edge.due("cell(0, 3): it FLOWS nowhere", new Land().cell(0, 3), DrownedLand.NONE);
    }

    private static void calls() {
        Edge.head("An object is used for at most 512 calls after it has been made");
        Land x = new Land();
        for (int i = 1; i <= 510; i++) {
            x.sound(i % 256, 7, i % 2 == 0 ? 6 : 8);
        }
        Edge.due("the 511th call", x.cell(255, 1), 8);
        Edge.due("the 512th call", x.count(8), 255);
    }

    private static void ages() {
        Edge.terms(1, "AGES 0 to 99, the later the greater.");
        Land x = Check.under("sea 0 1;sea 99 2;");
        Edge.due("sea(-1, 0)", x.sea(-1, 0), -1);
        Edge.due("sea(0, 0)", x.sea(0, 0), 1);
        Edge.due("sea(1, 0)", x.sea(1, 0), 1);
        Edge.due("sea(98, 0)", x.sea(98, 0), 1);
        Edge.due("sea(99, 0)", x.sea(99, 0), 2);
        Edge.due("sea(100, 0)", x.sea(100, 0), -1);
        Edge.bad("sea 100 1;", 4);
        Edge.due("find(0, 0, 99, 98)", x.find(0, 0, 99, 98), -1);
        Edge.due("find(0, 0, 98, 99)", x.find(0, 0, 98, 99), 0);
    }

    private static void beside() {
        Edge.terms(1, "CELLS 0 to 255: 16 y and x. BESIDE a CELL: the up to four with x or y one other");
        // how many CELLS BESIDE one CELL at sea are LAND
        int[] at = {0, 15, 240, 255, 1, 14, 7, 16, 31, 112, 127, 241, 254, 248, 17, 30, 225, 238, 120};
        int[] due = {2, 2, 2, 2, 3, 3, 3, 3, 3, 3, 3, 3, 3, 3, 4, 4, 4, 4, 4};
        for (int i = 0; i < at.length; i++) {
            Land x = new Land();
            x.sound(at[i], 0, 0);
            Edge.due("shore(0) with CELL " + at[i] + " at sea", x.shore(0), due[i]);
        }
        Land x = new Land();
        x.sound(15, 0, 0);
        Edge.due("CELL 14 is BESIDE 15", x.cell(14, 3), 15);
        Edge.due("CELL 31 is BESIDE 15", x.cell(31, 3), 15);
        Edge.due("CELL 16 isn't BESIDE 15", x.cell(16, 3), -1);
        Edge.due("CELL 30 isn't BESIDE 15", x.cell(30, 3), -1);
        x = new Land();
        x.sound(240, 0, 0);
        Edge.due("CELL 241 is BESIDE 240", x.cell(241, 3), 240);
        Edge.due("CELL 224 is BESIDE 240", x.cell(224, 3), 240);
        Edge.due("CELL 239 isn't BESIDE 240", x.cell(239, 3), -1);
        Edge.due("CELL 0 isn't BESIDE 240", x.cell(0, 3), -1);
    }

    private static void round() {
        Edge.terms(1, "ROUND it: the up to eight around.");
        // how many CELLS have one lower CELL in their round: it has so many of them
        int[] at = {0, 15, 240, 255, 7, 112, 127, 248, 17, 30, 120};
        int[] due = {3, 3, 3, 3, 5, 5, 5, 5, 8, 8, 8};
        for (int i = 0; i < at.length; i++) {
            Land x = new Land();
            middle(x, at[i], 98);
            Edge.due("asked(" + at[i] + ", 0, 3) as the lowest", x.asked(at[i], 0, 3), due[i]);
        }
        Land x = new Land();
        middle(x, 47, 100);
        Edge.due("wind of 31, ROUND 47", x.asked(31, 0, 3), 1);
        Edge.due("wind of 30, ROUND 47", x.asked(30, 0, 3), 1);
        Edge.due("wind of 62, ROUND 47", x.asked(62, 0, 3), 1);
        Edge.due("wind of 32, not ROUND 47", x.asked(32, 0, 3), 0);
        Edge.due("wind of 48, not ROUND 47", x.asked(48, 0, 3), 0);
        Edge.due("wind of 64, not ROUND 47", x.asked(64, 0, 3), 0);
        Edge.due("wind of 45, not ROUND 47", x.asked(45, 0, 3), 0);
        Edge.due("wind of 15, not ROUND 47", x.asked(15, 0, 3), 0);
        Edge.due("wind of 47 itself", x.asked(47, 0, 3), 0);
    }

    private static void heights() {
        Edge.terms(1, "Each CELL was SOUNDED between a low and a high height (0 to 99; at first 0 and 99)");
        Land x = new Land();
        Edge.due("low at first", x.cell(8, 0), 0);
        Edge.due("high at first", x.cell(8, 1), 99);
        Edge.due("sound(8, -1, 50)", x.sound(8, -1, 50), false);
        Edge.due("sound(8, 0, 50)", x.sound(8, 0, 50), true);
        Edge.due("low", x.cell(8, 0), 0);
        Edge.due("sound(8, 1, 50)", x.sound(8, 1, 50), true);
        Edge.due("low", x.cell(8, 0), 1);
        Edge.due("sound(8, 50, 98)", x.sound(8, 50, 98), true);
        Edge.due("high", x.cell(8, 1), 98);
        Edge.due("sound(8, 50, 99)", x.sound(8, 50, 99), true);
        Edge.due("high", x.cell(8, 1), 99);
        Edge.due("sound(8, 50, 100)", x.sound(8, 50, 100), false);
        Edge.due("sound(8, 100, 100)", x.sound(8, 100, 100), false);
        Edge.due("sound(8, -1, -1)", x.sound(8, -1, -1), false);
        Edge.due("low stays", x.cell(8, 0), 50);
        Edge.due("high stays", x.cell(8, 1), 99);
        Edge.due("sound(8, 99, 99)", x.sound(8, 99, 99), true);
        Edge.due("low", x.cell(8, 0), 99);
        Edge.due("sound(8, 0, 0)", x.sound(8, 0, 0), true);
        Edge.due("high", x.cell(8, 1), 0);
        Edge.due("another CELL", x.cell(9, 1), 99);
    }

    private static void sounding() {
        Edge.promise(2, "A CELL is SOUNDED: true; false, doing nothing but REFUSED: not as told (high not below low).");
        Land x = new Land();
        Edge.due("sound(5, 40, 39)", x.sound(5, 40, 39), false);
        Edge.due("high stays", x.cell(5, 1), 99);
        Edge.due("REFUSED not as told", x.count(8), 1);
        Edge.due("sound(5, 40, 40)", x.sound(5, 40, 40), true);
        Edge.due("sound(5, 40, 41)", x.sound(5, 40, 41), true);
        Edge.due("high", x.cell(5, 1), 41);
        Edge.due("sound(5, 40, 39)", x.sound(5, 40, 39), false);
        Edge.due("low stays", x.cell(5, 0), 40);
        Edge.due("high stays", x.cell(5, 1), 41);
        Edge.due("sound(-1, 0, 0)", x.sound(-1, 0, 0), false);
        Edge.due("sound(0, 0, 0)", x.sound(0, 0, 0), true);
        Edge.due("sound(255, 0, 0)", x.sound(255, 0, 0), true);
        Edge.due("sound(256, 0, 0)", x.sound(256, 0, 0), false);
        Edge.due("REFUSED not as told", x.count(8), 4);
        Edge.due("REFUSED for room", x.count(9), 0);
        Edge.due("REFUSED for a FAULT", x.count(10), 0);
    }

    private static void sunkHeights() {
        Edge.terms(1, "it stood so much higher ahead of all AGES; heights here are as SOUNDED and SUNK together, each held to 99; MIDDLE by these.");
        Land x = Check.under("sink 30;");
        int[] low = {0, 68, 69, 70, 99};
        int[] due = {30, 98, 99, 99, 99};
        for (int i = 0; i < low.length; i++) {
            x.sound(0, low[i], 99);
            Edge.due("low of " + low[i] + " and 30", x.cell(0, 0), due[i]);
            Edge.due("high of 99 and 30", x.cell(0, 1), 99);
            x.sound(1, 0, low[i]);
            Edge.due("high of " + low[i] + " and 30", x.cell(1, 1), due[i]);
            Edge.due("low of 0 and 30", x.cell(1, 0), 30);
        }
        x.sound(2, 60, 80);
        Edge.due("height by (90 + 99) / 2", x.asked(2, 0, 1), 94);
        x = Check.under("sink 99 if x=0;sink 0 if x=1;");
        Edge.due("low of 0 and 99", x.cell(0, 0), 99);
        Edge.due("low of 0 and 0", x.cell(1, 0), 0);
        Edge.due("height of 99 and 99", x.asked(0, 0, 1), 99);
    }

    private static void middles() {
        Edge.terms(1, "its MIDDLE: both together (in half yards).");
        // half a yard more or less turns the water
        Land x = new Land();
        x.sound(17, 49, 49);
        Edge.due("98 is below 99", x.cell(18, 3), 17);
        x.sound(17, 49, 50);
        Edge.due("99 is like 99", x.cell(18, 3), -1);
        Edge.due("99 is like 99", x.cell(17, 3), -1);
        x.sound(17, 50, 50);
        Edge.due("100 is above 99", x.cell(17, 3), 1);
        x.sound(17, 1, 98);
        Edge.due("1 and 98 are like 0 and 99", x.cell(17, 3), -1);
        x.sound(17, 0, 98);
        Edge.due("0 and 98 are below", x.cell(18, 3), 17);
    }

    private static void land() {
        Edge.terms(1, "LAND at an AGE: a CELL whose MIDDLE is above both LEVELS of SEA together.");
        Land x = Check.under("sea 0 20 to 31;");
        int[] low = {25, 25, 26, 0, 20};
        int[] high = {25, 26, 26, 99, 31};
        int[] due = {0, 0, 1, 1, 0};
        for (int i = 0; i < low.length; i++) {
            x.sound(100, low[i], high[i]);
            Edge.due("asked(100, 0, 0) of " + low[i] + " to " + high[i], x.asked(100, 0, 0), due[i]);
        }
        x = new Land();
        x.sound(100, 0, 0);
        Edge.due("MIDDLE 0 with no sea", x.asked(100, 0, 0), 0);
        x.sound(100, 0, 1);
        Edge.due("MIDDLE 1 with no sea", x.asked(100, 0, 0), 1);
        x = Check.under("sea 0 99 to 99;");
        x.sound(100, 99, 99);
        Edge.due("the highest CELL in the highest sea", x.asked(100, 0, 0), 0);
        x = Check.under("sea 0 98 to 99;");
        x.sound(100, 99, 99);
        Edge.due("the highest CELL in a sea half a yard less", x.asked(100, 0, 0), 1);
        Edge.terms(1, "height asked: what is between, by 2 (cut; 0 at sea).");
        x = Check.under("sea 0 20 to 31;");
        int[] above = {-51, -2, -1, 0, 1, 2, 3, 4, 5, 147};
        int[] height = {0, 0, 0, 0, 0, 1, 1, 2, 2, 73};
        for (int i = 0; i < above.length; i++) {
            middle(x, 100, 51 + above[i]);
            Edge.due("asked(100, 0, 1) at " + above[i] + " above", x.asked(100, 0, 1), height[i]);
        }
    }

    private static void flows() {
        Edge.terms(1, "FLOWS: a CELL to the one BESIDE it with the least MIDDLE that is below its own (of several the least number; else nowhere).");
        Land x = new Land();
        Edge.due("all alike", x.cell(17, 3), -1);
        middle(x, 17, 98);
        Edge.due("the lowest", x.cell(17, 3), -1);
        middle(x, 17, 100);
        Edge.due("four alike below", x.cell(17, 3), 1);
        middle(x, 1, 100);
        Edge.due("the first like its own", x.cell(17, 3), 16);
        middle(x, 16, 101);
        Edge.due("the second above", x.cell(17, 3), 18);
        middle(x, 33, 98);
        Edge.due("the last lower yet", x.cell(17, 3), 33);
        middle(x, 18, 98);
        Edge.due("two of the least", x.cell(17, 3), 18);
        middle(x, 16, 98);
        Edge.due("three of the least", x.cell(17, 3), 16);
        middle(x, 1, 98);
        Edge.due("four of the least", x.cell(17, 3), 1);
        middle(x, 1, 99);
        Edge.due("the first lower, but not the least", x.cell(17, 3), 16);
        middle(x, 0, 0);
        middle(x, 2, 0);
        middle(x, 32, 0);
        middle(x, 34, 0);
        Edge.due("corners aren't BESIDE", x.cell(17, 3), 16);
    }

    private static void flowsAtEdges() {
        Edge.terms(1, "FLOWS: a CELL to the one BESIDE it with the least MIDDLE that is below its own (of several the least number; else nowhere).");
        int[] at = {0, 15, 240, 255};
        int[] first = {1, 14, 224, 239};
        int[] second = {16, 31, 241, 254};
        for (int i = 0; i < 4; i++) {
            Land x = new Land();
            middle(x, at[i], 100);
            Edge.due("CELL " + at[i] + " to the least number", x.cell(at[i], 3), first[i]);
            middle(x, second[i], 98);
            Edge.due("CELL " + at[i] + " to the least MIDDLE", x.cell(at[i], 3), second[i]);
            middle(x, first[i], 100);
            middle(x, second[i], 100);
            Edge.due("CELL " + at[i] + " nowhere", x.cell(at[i], 3), -1);
        }
        Land x = Check.under(ALL_AT_SEA);
        middle(x, 17, 98);
        Edge.due("water goes on under the sea", x.cell(18, 3), 17);
    }

    private static void rivers() {
        Edge.terms(1, "river: how many CELLS come through it so, itself, too (99 at most).");
        Land x = new Land();
        Edge.due("itself alone", x.cell(17, 4), 1);
        middle(x, 17, 98);
        Edge.due("four come and itself", x.cell(17, 4), 5);
        Edge.due("one of the four", x.cell(18, 4), 1);
        middle(x, 0, 98);
        // CELL 1 and 16 lie beside 0 and 17, both 98: to the least number
        Edge.due("two of them go elsewhere", x.cell(17, 4), 3);
        Edge.due("there", x.cell(0, 4), 3);
        Land y = new Land();
        middle(y, 100, 100);
        Edge.due("where the one highest CELL goes", y.cell(100, 3), 84);
        Edge.due("its water is counted there", y.cell(84, 4), 2);
        Edge.due("and its END", y.ends(84, 1), 2);
        middle(y, 255, 101);
        Edge.due("the water of the highest of two", y.cell(239, 4), 2);
        Edge.due("the water of the other", y.cell(84, 4), 2);
        middle(x, 33, 97);
        Edge.due("17 goes to 33 now", x.cell(17, 3), 33);
        Edge.due("one comes through 17", x.cell(17, 4), 2);
        Edge.due("33: itself, 17 and 18 through it, 32, 34, 49", x.cell(33, 4), 6);
    }

    /**
     * All water of 96 CELLS that fall to the east and south and of 16 beside them, 112 in all, comes to CELL 95,
     * but for that of CELLS near two pits.
     */
    static Land valley(int pit, int otherPit) {
        Land x = new Land();
        for (int c = 0; c < 96; c++) {
            middle(x, c, c == pit || c == otherPit ? 0 : 80 - c % 16 - c / 16);
        }
        return x;
    }

    private static void manyRivers() {
        Edge.terms(1, "river: how many CELLS come through it so, itself, too (99 at most).");
        // a pit in the north at x takes 2x + 3, one further south 3x + 4
        int[] pits = {2, 0, 1};
        int[] otherPits = {49, 50, 49};
        for (int i = 0; i < 3; i++) {
            Land x = valley(pits[i], otherPits[i]);
            Edge.due("CELLS with END 95", x.ends(95, 1), 98 + i);
            Edge.due("river of 95 with " + (98 + i), x.cell(95, 4), Math.min(99, 98 + i));
        }
        Land x = valley(-1, -1);
        Edge.due("CELLS with END 95", x.ends(95, 1), 112);
        Edge.due("river of 95 with 112", x.cell(95, 4), 99);
        Edge.due("river of 79, one ahead of it", x.cell(79, 4), 80);
    }

    private static void coasts() {
        Edge.terms(1, "coast: the fewest steps by CELLS BESIDE one another to one that isn't LAND (0 at sea; 99, if there is none).");
        Land x = new Land();
        Edge.due("none at sea", x.asked(0, 0, 2), 99);
        Edge.due("none at sea", x.asked(255, 0, 2), 99);
        x.sound(0, 0, 0);
        int[] at = {0, 1, 16, 17, 2, 18, 255, 15, 31};
        int[] due = {0, 1, 1, 2, 2, 3, 30, 15, 16};
        for (int i = 0; i < at.length; i++) {
            Edge.due("asked(" + at[i] + ", 0, 2)", x.asked(at[i], 0, 2), due[i]);
        }
        x.sound(255, 0, 0);
        Edge.due("the nearer of two", x.asked(254, 0, 2), 1);
        Edge.due("as far from both", x.asked(15, 0, 2), 15);
        x = Check.under(ALL_AT_SEA);
        Edge.due("all at sea", x.asked(0, 0, 2), 0);
        x.sound(100, 99, 99);
        Edge.due("the only LAND", x.asked(100, 0, 2), 1);
    }

    private static void winds() {
        Edge.terms(1, "wind: how many ROUND it have a greater MIDDLE.");
        Land x = new Land();
        Edge.due("all alike", x.asked(100, 0, 3), 0);
        int[] round = {83, 84, 85, 99, 101, 115, 116, 117};
        for (int i = 0; i < 8; i++) {
            middle(x, round[i], 98);
            Edge.due("a lesser one at " + round[i], x.asked(100, 0, 3), i);
            middle(x, round[i], 99);
            Edge.due("one alike at " + round[i], x.asked(100, 0, 3), i);
            middle(x, round[i], 100);
            Edge.due("a greater one at " + round[i], x.asked(100, 0, 3), i + 1);
        }
        middle(x, 98, 198);
        middle(x, 102, 198);
        middle(x, 68, 198);
        middle(x, 132, 198);
        Edge.due("greater ones two steps off", x.asked(100, 0, 3), 8);
        Edge.due("at any AGE", x.asked(100, 99, 3), 8);
    }

    private static void underFirst() {
        Edge.terms(2, "UNDER of a CELL: the first AGE at which the greater LEVEL isn't below its low height");
        Land x = Check.under("sea 10 20 to 30;sea 20 40;sea 30 5;sea 40 50;sea 99 70;");
        int[] low = {0, 1, 29, 30, 31, 39, 40, 41, 49, 50, 51, 69, 70, 71, 99};
        int[] due = {0, 10, 10, 10, 20, 20, 20, 40, 40, 40, 99, 99, 99, 100, 100};
        for (int i = 0; i < low.length; i++) {
            x.sound(7, low[i], 99);
            Edge.due("cell(7, 6) of a low of " + low[i], x.cell(7, 6), due[i]);
        }
        x = Check.under("sea 10 30;sink 10 if x=7;");
        x.sound(7, 20, 99);
        Edge.due("20 and SUNK 10", x.cell(7, 6), 10);
        x.sound(7, 21, 99);
        Edge.due("21 and SUNK 10", x.cell(7, 6), 100);
    }

    private static void underLast() {
        Edge.terms(2, "and the first at which the lesser one isn't below its high (none: 100).");
        Land x = Check.under("sea 10 20 to 30;sea 20 40;sea 30 5;sea 40 50;sea 99 70 to 90;");
        int[] high = {0, 1, 19, 20, 21, 30, 39, 40, 41, 49, 50, 51, 69, 70, 71, 90, 99};
        int[] due = {0, 10, 10, 10, 20, 20, 20, 20, 40, 40, 40, 99, 99, 99, 100, 100, 100};
        for (int i = 0; i < high.length; i++) {
            x.sound(7, 0, high[i]);
            Edge.due("cell(7, 7) of a high of " + high[i], x.cell(7, 7), due[i]);
        }
        x = new Land();
        Edge.due("no sea, low 0", x.cell(7, 6), 0);
        Edge.due("no sea, high 99", x.cell(7, 7), 100);
        x.sound(7, 1, 1);
        Edge.due("no sea, low 1", x.cell(7, 6), 100);
        x.sound(7, 0, 0);
        Edge.due("no sea, high 0", x.cell(7, 7), 0);
    }

    /** CELL 100 goes to 116, 10 to 40 high; all others BESIDE 100 are 60. */
    private static Land towards116() {
        Land x = new Land();
        x.sound(84, 60, 60);
        x.sound(99, 60, 60);
        x.sound(101, 60, 60);
        x.sound(116, 10, 40);
        return x;
    }

    private static void sureOfOne() {
        Edge.terms(2, "SURE river: it FLOWS to one whose high height is below its own low one");
        Land x = towards116();
        int[] low = {39, 40, 41, 42};
        int[] due = {0, 0, 1, 1};
        for (int i = 0; i < low.length; i++) {
            x.sound(100, low[i], 80);
            Edge.due("where it FLOWS", x.cell(100, 3), 116);
            Edge.due("cell(100, 5) with a low of " + low[i], x.cell(100, 5), due[i]);
        }
        x = new Land();
        Edge.due("it FLOWS nowhere", x.cell(100, 5), 0);
        x.sound(100, 99, 99);
        Edge.due("to one of 0 to 99", x.cell(100, 5), 0);
    }

    private static void sureOfOthers() {
        Edge.terms(2, "and to each other one BESIDE it the low height isn't below that high one.");
        for (int other : new int[] {84, 99, 101}) {
            Land x = towards116();
            x.sound(100, 70, 80);
            int[] low = {0, 39, 40, 41};
            int[] due = {0, 0, 1, 1};
            for (int i = 0; i < low.length; i++) {
                x.sound(other, low[i], 90);
                Edge.due("where it FLOWS", x.cell(100, 3), 116);
                Edge.due("cell(100, 5) with a low of " + low[i] + " at " + other, x.cell(100, 5), due[i]);
            }
            x.sound(85, 0, 0);
            x.sound(115, 0, 0);
            Edge.due("corners aren't BESIDE", x.cell(100, 5), 1);
        }
        Land x = new Land();
        x.sound(0, 70, 70);
        x.sound(1, 10, 10);
        x.sound(16, 9, 99);
        Edge.due("a corner with two BESIDE, one below", x.cell(0, 5), 0);
        x.sound(16, 10, 99);
        Edge.due("a corner with two BESIDE", x.cell(0, 5), 1);
    }

    private static void shores() {
        Edge.terms(2, "SHORE at an AGE: couples of LAND and not LAND BESIDE one another.");
        Land x = new Land();
        Edge.due("no sea", x.shore(0), 0);
        x.sound(100, 0, 0);
        Edge.due("one at sea", x.shore(0), 4);
        x.sound(117, 0, 0);
        Edge.due("two at a corner", x.shore(0), 8);
        x.sound(101, 0, 0);
        Edge.due("three", x.shore(0), 8);
        x = Check.under("sea 10 49 to 50;sea 20 49 to 49;");
        Edge.due("all at sea", x.shore(10), 0);
        Edge.due("no CELL at sea", x.shore(20), 0);
        Edge.due("no CELL at sea", x.shore(9), 0);
        x.sound(255, 99, 99);
        Edge.due("a corner of LAND", x.shore(10), 2);
        x.sound(254, 99, 99);
        Edge.due("two of LAND", x.shore(10), 3);
        Edge.promise(9, "SHORE. NONE: none such.");
        Edge.due("shore(-1)", x.shore(-1), -1);
        Edge.due("shore(0)", x.shore(0), 0);
        Edge.due("shore(99)", x.shore(99), 0);
        Edge.due("shore(100)", x.shore(100), -1);
    }

    private static void islands() {
        Edge.terms(2, "ISLAND of a CELL at an AGE: how many CELLS of LAND hang together with it by CELLS BESIDE (0 at sea).");
        Land x = Check.under(ALL_AT_SEA);
        Edge.due("at sea", x.asked(15, 0, 4), 0);
        x.sound(15, 60, 60);
        Edge.due("one", x.asked(15, 0, 4), 1);
        x.sound(16, 60, 60);
        Edge.due("16 isn't BESIDE 15", x.asked(15, 0, 4), 1);
        x.sound(30, 60, 60);
        Edge.due("30 is a corner of 15", x.asked(15, 0, 4), 1);
        x.sound(14, 60, 60);
        Edge.due("14 brings 15 and 30 together", x.asked(15, 0, 4), 3);
        Edge.due("30 too", x.asked(30, 0, 4), 3);
        Edge.due("16 hangs with none", x.asked(16, 0, 4), 1);
        Edge.due("17 is at sea", x.asked(17, 0, 4), 0);
        x = new Land();
        Edge.due("all", x.asked(0, 0, 4), 256);
        x.sound(100, 0, 0);
        Edge.due("all but one", x.asked(0, 0, 4), 255);
        Edge.due("the one", x.asked(100, 0, 4), 0);
    }

    private static void alone() {
        Edge.promise(10, "ALONE: AGES (what 0), the first of them (1; NONE without; of several rows the first), in ISLANDS of so many at most (1 to 256).");
        Land x = Check.under(ALL_AT_SEA);
        x.sound(0, 60, 60);
        x.sound(1, 60, 60);
        x.sound(16, 60, 60);
        int[] most = {1, 2, 3, 4, 256};
        int[] ages = {0, 0, 100, 100, 100};
        for (int i = 0; i < most.length; i++) {
            Edge.due("alone(0, " + most[i] + ", 0)", x.alone(0, most[i], 0), ages[i]);
            Edge.due("alone(0, " + most[i] + ", 1)", x.alone(0, most[i], 1), ages[i] == 0 ? -1 : 0);
        }
        Edge.due("at sea", x.alone(2, 256, 0), 0);
        Edge.due("at sea", x.alone(2, 256, 1), -1);
        x = new Land();
        Edge.due("alone(0, 255, 0) of 256", x.alone(0, 255, 0), 0);
        Edge.due("alone(0, 256, 0) of 256", x.alone(0, 256, 0), 100);
        Edge.promise(10, "NONE: none such.");
        Edge.due("alone(0, 0, 0)", x.alone(0, 0, 0), -1);
        Edge.due("alone(0, 257, 0)", x.alone(0, 257, 0), -1);
        Edge.due("alone(-1, 256, 0)", x.alone(-1, 256, 0), -1);
        Edge.due("alone(255, 256, 0)", x.alone(255, 256, 0), 100);
        Edge.due("alone(256, 256, 0)", x.alone(256, 256, 0), -1);
        Edge.due("alone(0, 256, -1)", x.alone(0, 256, -1), -1);
        Edge.due("alone(0, 256, 2)", x.alone(0, 256, 2), -1);
    }

    /** How long and from when CELL 100, 60 high, is LAND in ISLANDS of one, by a text of SEA. */
    private static void row(String sea, int ages, int first) {
        Land x = Check.under(sea);
        x.sound(100, 60, 60);
        Edge.due("alone(100, 1, 0) of \"" + sea + "\"", x.alone(100, 1, 0), ages);
        Edge.due("alone(100, 1, 1) of \"" + sea + "\"", x.alone(100, 1, 1), first);
    }

    private static void aloneRows() {
        Edge.terms(2, "ALONE: the longest row of AGES at which that is 1 to a number.");
        // 50: it stands alone; 60: it is at sea; 0: with all others
        row("sea 0 50;", 100, 0);
        row("sea 0 60;", 0, -1);
        row("", 0, -1);
        row("sea 99 50;", 1, 99);
        row("sea 0 50;sea 1 60;", 1, 0);
        row("sea 10 50;sea 11 60;", 1, 10);
        row("sea 10 50;sea 20 60;sea 30 50;sea 40 0;", 10, 10);
        row("sea 10 50;sea 20 60;sea 30 50;sea 41 0;", 11, 30);
        row("sea 10 50;sea 20 60;sea 30 50;sea 39 0;", 10, 10);
        row("sea 10 50;sea 20 0;sea 21 55;sea 31 0;", 10, 10);
        row("sea 10 50;sea 20 55;sea 31 0;", 21, 10);
        row("sea 10 50;sea 11 60;sea 12 50;sea 13 60;sea 14 50;sea 15 60;", 1, 10);
        row("sea 0 50;sea 1 60;sea 98 50;", 2, 98);
    }

    private static void cells() {
        Edge.promise(7, "Of a CELL: 0 low, 1 high height (SUNK counted), 2 SUNK, 3 to where it FLOWS (NONE), 4 river, 5 whether it's SURE (1), "
                + "6 UNDER's first AGE, 7 its last, 8 BUCKETS, 9 whether it's a PLACE (1), 10 MUD (0 not wet, 1 wet; NONE).");
        Land x = Check.under("sink 5 if x=4;sea 30 85;sea 60 95;");
        x.sound(100, 75, 85);
        x.sound(101, 0, 20);
        x.sound(99, 50, 99);
        x.sound(84, 50, 99);
        x.sound(116, 50, 99);
        x.bucket(100, 3);
        x.place(100);
        x.mud(100, true);
        x.mud(99, false);
        int[] due = {80, 90, 5, 101, 1, 1, 30, 60, 3, 1, 1};
        for (int what = 0; what <= 10; what++) {
            Edge.due("cell(100, " + what + ")", x.cell(100, what), due[what]);
        }
        Edge.due("MUD not wet", x.cell(99, 10), 0);
        Edge.due("no MUD", x.cell(98, 10), -1);
        Edge.due("no PLACE", x.cell(99, 9), 0);
        Edge.due("not SURE", x.cell(99, 5), 0);
        Edge.due("it FLOWS nowhere", x.cell(101, 3), -1);
        Edge.due("BUCKETS", x.cell(101, 8), 0);
        Edge.promise(7, "NONE: none such.");
        for (int what = 0; what <= 10; what++) {
            Edge.due("cell(-1, " + what + ")", x.cell(-1, what), -1);
            Edge.due("cell(256, " + what + ")", x.cell(256, what), -1);
        }
        Edge.due("cell(100, -1)", x.cell(100, -1), -1);
        Edge.due("cell(100, 11)", x.cell(100, 11), -1);
        Edge.due("cell(0, 1)", x.cell(0, 1), 99);
        Edge.due("cell(255, 1)", x.cell(255, 1), 99);
    }

    private static void asked() {
        Edge.promise(8, "Of a CELL at an AGE: 0 LAND (1), 1 height, 2 coast, 3 wind, 4 ISLAND, 5 LIVE (0 at sea), 6 FISH, 7 KEEP, 8 its KIND.");
        Land x = Check.under("sea 50 30;sea 60 50;live 7;fish 8;keep 9;");
        x.sound(0, 10, 10);
        int[] early = {1, 49, 99, 0, 256, 7, 8, 9, 0};
        int[] later = {1, 19, 1, 0, 255, 7, 8, 9, 10};
        int[] sea = {0, 0, 0, 3, 0, 0, 8, 9, 10};
        for (int what = 0; what <= 8; what++) {
            Edge.due("asked(15, 49, " + what + ")", x.asked(15, 49, what), early[what]);
            Edge.due("asked(16, 50, " + what + ")", x.asked(16, 50, what), later[what]);
            Edge.due("asked(0, 50, " + what + ")", x.asked(0, 50, what), sea[what]);
        }
        Edge.due("asked(255, 60, 6) at sea", x.asked(255, 60, 6), 8);
        Edge.promise(8, "NONE: none such.");
        for (int what = 0; what <= 8; what++) {
            Edge.due("asked(-1, 0, " + what + ")", x.asked(-1, 0, what), -1);
            Edge.due("asked(256, 0, " + what + ")", x.asked(256, 0, what), -1);
            Edge.due("asked(0, -1, " + what + ")", x.asked(0, -1, what), -1);
            Edge.due("asked(0, 100, " + what + ")", x.asked(0, 100, what), -1);
        }
        Edge.due("asked(0, 0, -1)", x.asked(0, 0, -1), -1);
        Edge.due("asked(0, 0, 9)", x.asked(0, 0, 9), -1);
        Edge.due("asked(255, 99, 7)", x.asked(255, 99, 7), 9);
    }

    private static void fords() {
        Edge.promise(32, "FORDS by a line (2 to 99): how many (k NONE), the k-th. NONE: none such.");
        Land x = new Land();
        Edge.due("none", x.ford(0, 2, -1), 0);
        Edge.due("none, the first", x.ford(0, 2, 0), -1);
        middle(x, 100, 98);
        middle(x, 150, 98);
        Edge.due("two", x.ford(0, 2, -1), 2);
        Edge.due("the first", x.ford(0, 2, 0), 100);
        Edge.due("the second", x.ford(0, 2, 1), 150);
        Edge.due("a third", x.ford(0, 2, 2), -1);
        Edge.due("a last k", x.ford(0, 2, Integer.MAX_VALUE), -1);
        Edge.due("k -2", x.ford(0, 2, -2), -1);
        Edge.due("a first k", x.ford(0, 2, Integer.MIN_VALUE), -1);
        Edge.due("line 1", x.ford(0, 1, -1), -1);
        Edge.due("line 0", x.ford(0, 0, 0), -1);
        Edge.due("line 99", x.ford(0, 99, -1), 0);
        Edge.due("line 100", x.ford(0, 100, -1), -1);
        Edge.due("AGE -1", x.ford(-1, 2, -1), -1);
        Edge.due("AGE 99", x.ford(99, 2, -1), 2);
        Edge.due("AGE 100", x.ford(100, 2, -1), -1);
        Edge.terms(3, "FORDS at an AGE by a line n: CELLS of LAND with a river of n at least");
        Edge.due("line 4 by rivers of 5", x.ford(0, 4, -1), 2);
        Edge.due("line 5 by rivers of 5", x.ford(0, 5, -1), 2);
        Edge.due("line 6 by rivers of 5", x.ford(0, 6, -1), 0);
        int[] pits = {2, 0, 1};
        int[] otherPits = {49, 50, 49};
        int[] due = {0, 1, 1};
        for (int i = 0; i < 3; i++) {
            Land y = valley(pits[i], otherPits[i]);
            Edge.due("line 99 by a river of " + (98 + i), y.ford(0, 99, -1), due[i]);
            Edge.due("line 98 by a river of " + (98 + i), y.ford(0, 98, 0), 95);
        }
        Land y = Check.under("sea 10 49;sea 20 48 to 49;");
        middle(y, 100, 98);
        Edge.due("at sea as 98 is not above 98", y.ford(10, 2, -1), 0);
        Edge.due("on LAND as 98 is above 97", y.ford(20, 2, -1), 1);
    }

    private static void fordBanks() {
        Edge.terms(3, "to the east and west of which, or to the north and south, there is LAND with a river below n on both sides.");
        Land x = new Land();
        middle(x, 100, 90);
        middle(x, 99, 95);
        x.sound(84, 0, 0);
        // 83 goes to 84, which is at sea: 99 has itself, 98 and 115; 100 these, itself, 101 and 116
        Edge.due("river of 99", x.cell(99, 4), 3);
        Edge.due("river of 100", x.cell(100, 4), 6);
        Edge.due("line 2: 99 alone, by the north and south", x.ford(0, 2, -1), 1);
        Edge.due("line 3: 99 alone, as its river isn't below 3", x.ford(0, 3, -1), 1);
        Edge.due("line 3: which", x.ford(0, 3, 0), 99);
        Edge.due("line 4: 100 alone, as 99's river is below 4", x.ford(0, 4, -1), 1);
        Edge.due("line 4: which", x.ford(0, 4, 0), 100);
        Edge.due("line 6: 100", x.ford(0, 6, 0), 100);
        Edge.due("line 7: none", x.ford(0, 7, -1), 0);
        x.sound(101, 0, 0);
        Edge.due("no LAND to the east", x.ford(0, 4, -1), 0);
        Land y = new Land();
        middle(y, 100, 90);
        y.sound(101, 0, 0);
        // 101 is at sea and takes the water of 100 and of 85, 102, 117
        Edge.due("river of 100: 84, 99, 116 and itself", y.cell(100, 4), 4);
        Edge.due("by the north and south alone", y.ford(0, 4, -1), 1);
        y.sound(84, 0, 0);
        Edge.due("neither way", y.ford(0, 2, -1), 0);
    }

    private static void fordsAtEdges() {
        Edge.terms(3, "to the east and west of which, or to the north and south, there is LAND with a river below n on both sides.");
        int[] at = {0, 15, 240, 255, 16, 31, 7, 247};
        int[] due = {0, 0, 0, 0, 1, 1, 1, 1};
        for (int i = 0; i < at.length; i++) {
            Land x = new Land();
            middle(x, at[i], 98);
            Edge.due("ford(0, 2, -1) with " + at[i] + " lower", x.ford(0, 2, -1), due[i]);
        }
        Land x = new Land();
        middle(x, 16, 98);
        x.sound(0, 0, 0);
        Edge.due("at the west edge, no LAND to the north", x.ford(0, 2, -1), 0);
        x = new Land();
        middle(x, 7, 90);
        x.sound(8, 0, 0);
        Edge.due("at the north edge, no LAND to the east", x.ford(0, 2, -1), 0);
    }

    private static void ends() {
        Edge.terms(3, "END of a CELL's water: to where it comes at last (itself, if it FLOWS nowhere).");
        Land x = new Land();
        Edge.due("nowhere", x.ends(17, 0), 17);
        middle(x, 17, 98);
        Edge.due("itself", x.ends(17, 0), 17);
        Edge.due("from BESIDE", x.ends(18, 0), 17);
        middle(x, 19, 100);
        Edge.due("3 is the least BESIDE 19", x.ends(19, 0), 3);
        middle(x, 33, 97);
        Edge.due("over 17 to 33", x.ends(18, 0), 33);
        Edge.due("17 to 33", x.ends(17, 0), 33);
        Edge.promise(33, "END of a CELL's water (what 0), how many CELLS have that END (1). NONE: none such.");
        Edge.due("33, 17, 1, 16, 18, 32, 34, 49", x.ends(33, 1), 8);
        Edge.due("the same from another", x.ends(16, 1), 8);
        Edge.due("3 and 19", x.ends(3, 1), 2);
        Edge.due("one for itself", x.ends(100, 1), 1);
        Edge.due("ends(-1, 0)", x.ends(-1, 0), -1);
        Edge.due("ends(0, 0)", x.ends(0, 0), 0);
        Edge.due("ends(255, 0)", x.ends(255, 0), 255);
        Edge.due("ends(256, 0)", x.ends(256, 0), -1);
        Edge.due("ends(0, -1)", x.ends(0, -1), -1);
        Edge.due("ends(0, 2)", x.ends(0, 2), -1);
    }
}
