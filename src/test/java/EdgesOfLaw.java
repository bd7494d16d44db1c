/** The edges of a LAW's form, its FAULT, SEA, "catch" and "carry": Terms 1, promises 3 to 6. */
final class EdgesOfLaw {
    private static final String IF = "live 1 if ";

    private EdgesOfLaw() {
    }

    static void tryAll() {
        fortyRules();
        levels();
        withoutIf();
        hows();
        topsOfN();
        whatNSets();
        numbers();
        digits();
        conditions();
        comparing();
        words();
        tokens();
        letters();
        signs();
        blanks();
        open();
        openMeans();
        firstToken();
        numbersThatAreNotSo();
        moreMustCome();
        lastTold();
        lastToldOfSea();
        lastToldOfLong();
        askedOfAll();
        sea();
        sunkIsAsked();
        firstThatHolds();
        catchAndCarry();
        feeding();
        feedingTooMuch();
        telling();
        tellingWrongly();
        faults();
        askingForSea();
    }

    private static String rules(int n) {
        return "catch 1;".repeat(n);
    }

    private static void fortyRules() {
        Edge.terms(1, "A LAW is a text: {RULE \";\"}, at most 40.");
        Edge.good("", 0);
        Edge.good(" \n", 0);
        Edge.good(rules(1), 1);
        Edge.good(rules(39), 39);
        Edge.good(rules(40), 40);
        Edge.bad(rules(41), 320);
        Edge.bad(";", 0);
        Edge.bad("catch 1;;", 8);
        String last = "sink 1 if x=9;".repeat(39) + "sink 7;";
        Land x = Check.under(last);
        Edge.due("the 40th RULE holds", x.cell(0, 2), 7);
        Edge.due("the first RULE holds", x.cell(9, 2), 1);
        Edge.terms(1, "the 41st RULE: where it begins");
        Edge.good(rules(40) + " \n ", 40);
        Edge.bad(rules(40) + " \n catch 1;", 323);
        Edge.bad(rules(40) + "catch 11;", 320);
        Edge.bad(rules(40) + "c", 320);
        Edge.bad(rules(40) + ";", 320);
        Edge.bad(rules(40) + "\0", 320);
        Edge.bad(rules(39) + "catch 11;" + rules(1), 318);
        Edge.bad(rules(39) + "catch 1", 319);
    }

    private static void levels() {
        Edge.terms(1, "RULE: \"sea\" AGE LEVEL [\"to\" LEVEL]");
        Edge.good("sea 0 0;", 1);
        Edge.good("sea 99 0;", 1);
        Edge.bad("sea 100 0;", 4);
        Edge.bad("sea 0 5 6;", 8);
        Edge.bad("sea 0 5 to 6 to 7;", 13);
        Edge.terms(1, "LEVEL: 0 to 99 (\"to\": not below the one ahead)");
        Edge.good("sea 0 98;", 1);
        Edge.good("sea 0 99;", 1);
        Edge.bad("sea 0 100;", 6);
        Edge.bad("sea 0 -1;", 6);
        Edge.bad("sea 0 50 to 49;", 12);
        Edge.good("sea 0 50 to 50;", 1);
        Edge.good("sea 0 50 to 51;", 1);
        Edge.good("sea 0 50 to 99;", 1);
        Edge.bad("sea 0 50 to 100;", 12);
        Edge.good("sea 0 0 to 0;", 1);
        Edge.good("sea 0 0 to 99;", 1);
        Edge.bad("sea 0 99 to 98;", 12);
        Edge.good("sea 0 99 to 99;", 1);
        Edge.bad("sea 0 1 to 0;", 11);
    }

    private static void withoutIf() {
        Edge.terms(1, "| \"sink\" N [\"if\" ANY] | \"live\" N [\"if\" ANY] | \"fish\" N [\"if\" ANY] | \"keep\" N [\"if\" ANY] | "
                + "\"carry\" HOW N | \"catch\" N.");
        String[] kinds = {"sink", "live", "fish", "keep"};
        for (int i = 0; i < kinds.length; i++) {
            String kind = kinds[i];
            Land x = Check.under(kind + " 1 if x=9;" + kind + " 2;" + kind + " 3;");
            Edge.due(kind + " where the first holds", i == 0 ? x.cell(9, 2) : x.asked(9, 0, 4 + i), 1);
            Edge.due(kind + " where only those without \"if\" hold", i == 0 ? x.cell(8, 2) : x.asked(8, 0, 4 + i), 2);
            x = Check.under(kind + " 2;" + kind + " 1 if x=9;");
            Edge.due(kind + " without \"if\" ahead", i == 0 ? x.cell(9, 2) : x.asked(9, 0, 4 + i), 2);
            Edge.bad(kind + " 2 x=9;", 7);
            Edge.bad(kind + " 2 if;", 9);
            Edge.bad(kind + " if x=9;", 5);
            Edge.bad(kind + " 2 if x=9 if x=9;", 14);
        }
        Edge.bad("catch 2 if x=9;", 8);
        Edge.bad("carry cored 2 if x=9;", 14);
    }

    private static void hows() {
        Edge.terms(1, "HOW: fished, cored, grabbed (0 to 2)");
        Land x = Check.under("carry fished 11;carry cored 22;carry grabbed 33;");
        Edge.due("count(12)", x.count(12), 11);
        Edge.due("count(13)", x.count(13), 22);
        Edge.due("count(14)", x.count(14), 33);
        Edge.bad("carry 0 5;", 6);
        Edge.bad("carry fish 5;", 6);
        Edge.bad("carry fishedd 5;", 6);
        Edge.bad("carry corer 5;", 6);
        Edge.bad("carry grabbe 5;", 6);
        Edge.bad("carry;", 5);
        Edge.bad("carry cored;", 11);
        Edge.bad("carry cored cored 5;", 12);
    }

    private static void topsOfN() {
        Edge.terms(1, "N: of \"sink\" 0 to 99, of \"live\", \"fish\" 0 to 99, of \"keep\", \"carry\" 0 to 100, of \"catch\" 0 to 10.");
        String[] kinds = {"sink", "live", "fish", "keep", "carry fished", "carry cored", "carry grabbed", "catch"};
        int[] tops = {99, 99, 99, 100, 100, 100, 100, 10};
        for (int i = 0; i < kinds.length; i++) {
            int place = kinds[i].length() + 1;
            Edge.good(kinds[i] + " 0;", 1);
            Edge.good(kinds[i] + " 1;", 1);
            Edge.good(kinds[i] + " " + (tops[i] - 1) + ";", 1);
            Edge.good(kinds[i] + " " + tops[i] + ";", 1);
            Edge.bad(kinds[i] + " " + (tops[i] + 1) + ";", place);
            Edge.bad(kinds[i] + " 9999;", place);
            Edge.bad(kinds[i] + " -1;", place);
        }
    }

    private static void whatNSets() {
        Edge.terms(1, "N: of \"sink\" 0 to 99, of \"live\", \"fish\" 0 to 99, of \"keep\", \"carry\" 0 to 100, of \"catch\" 0 to 10.");
        Land x = Check.under("sink 99;live 99;fish 99;keep 100;carry fished 100;carry cored 99;carry grabbed 1;catch 10;");
        Edge.due("cell(0, 2)", x.cell(0, 2), 99);
        Edge.due("asked(0, 0, 5)", x.asked(0, 0, 5), 99);
        Edge.due("asked(0, 0, 6)", x.asked(0, 0, 6), 99);
        Edge.due("asked(0, 0, 7)", x.asked(0, 0, 7), 100);
        Edge.due("count(12)", x.count(12), 100);
        Edge.due("count(13)", x.count(13), 99);
        Edge.due("count(14)", x.count(14), 1);
        Edge.due("count(11)", x.count(11), 10);
        Check.law(x, "sink 0;live 0;fish 0;keep 0;carry fished 0;catch 0;");
        Edge.due("cell(0, 2)", x.cell(0, 2), 0);
        Edge.due("asked(0, 0, 5)", x.asked(0, 0, 5), 0);
        Edge.due("asked(0, 0, 6)", x.asked(0, 0, 6), 0);
        Edge.due("asked(0, 0, 7)", x.asked(0, 0, 7), 0);
        Edge.due("count(12)", x.count(12), 0);
        Edge.due("count(11)", x.count(11), 0);
    }

    private static void numbers() {
        Edge.terms(1, "NUMBER: 0 to 9,999.");
        Edge.good(IF + "x<0;", 1);
        Edge.good(IF + "x<9998;", 1);
        Edge.good(IF + "x<9999;", 1);
        Edge.bad(IF + "x<10000;", 12);
        Edge.bad(IF + "x<-1;", 12);
        Edge.due("\"x<9999\" holds", sunk("x<9999", 0), 1);
        Edge.due("\"x>9999\" doesn't", sunk("x>9999", 255), 0);
        Edge.due("\"x<0\" doesn't", sunk("x<0", 0), 0);
        Edge.due("\"x=0\" holds", sunk("x=0", 0), 1);
    }

    private static void digits() {
        Edge.terms(1, "Each number of one to four digits.");
        String[] ahead = {"sea ", "sea 5 ", "sea 5 1 to ", "sink ", "live ", "fish ", "keep ", "carry fished ", "catch ", IF + "x<"};
        String[] behind = {" 1;", ";", ";", ";", ";", ";", ";", ";", ";", ";"};
        for (int i = 0; i < ahead.length; i++) {
            int place = ahead[i].length();
            Edge.bad(ahead[i] + behind[i], place + (behind[i].charAt(0) == ' ' ? 2 : 0));
            Edge.good(ahead[i] + "1" + behind[i], 1);
            Edge.good(ahead[i] + "001" + behind[i], 1);
            Edge.good(ahead[i] + "0001" + behind[i], 1);
            Edge.bad(ahead[i] + "00001" + behind[i], place);
            Edge.bad(ahead[i] + "00000000000000000001" + behind[i], place);
            Edge.bad(ahead[i] + "4294967297" + behind[i], place);
        }
        Edge.good("catch 0000;", 1);
        Edge.bad("catch 00000;", 6);
        Land x = Check.under("catch 0007;");
        Edge.due("count(11) of \"catch 0007;\"", x.count(11), 7);
    }

    /** Whether a condition holds (1) of a CELL with "sink". */
    private static int sunk(String condition, int cell) {
        Land x = Check.under("sink 1 if " + condition + ";");
        return x.cell(cell, 2);
    }

    private static void conditions() {
        Edge.terms(1, "ANY: ALL {\"or\" ALL}. ALL: ONE {\"and\" ONE}.");
        Edge.bad(IF + ";", 10);
        Edge.good(IF + "x<1;", 1);
        Edge.good(IF + "x<1 or x<1;", 1);
        Edge.good(IF + "x<1 and x<1;", 1);
        Edge.bad(IF + "or x<1;", 10);
        Edge.bad(IF + "and x<1;", 10);
        Edge.bad(IF + "x<1 or;", 16);
        Edge.bad(IF + "x<1 and;", 17);
        Edge.bad(IF + "x<1 or and x<1;", 17);
        Edge.bad(IF + "x<1 x<1;", 14);
        // CELL 1 is x 1, y 0: the sides are "no", "yes"
        Edge.due("no or no", sunk("x=0 or y=1", 1), 0);
        Edge.due("no or yes", sunk("x=0 or y=0", 1), 1);
        Edge.due("yes or no", sunk("x=1 or y=1", 1), 1);
        Edge.due("yes or yes", sunk("x=1 or y=0", 1), 1);
        Edge.due("no and no", sunk("x=0 and y=1", 1), 0);
        Edge.due("no and yes", sunk("x=0 and y=0", 1), 0);
        Edge.due("yes and no", sunk("x=1 and y=1", 1), 0);
        Edge.due("yes and yes", sunk("x=1 and y=0", 1), 1);
        Edge.due("yes or yes and no", sunk("x=1 or y=0 and x=0", 1), 1);
        Edge.due("no and yes or yes", sunk("x=0 and y=0 or x=1", 1), 1);
        Edge.due("yes and no or no and yes", sunk("x=1 and y=1 or x=0 and y=0", 1), 0);
        Edge.due("no or no or yes", sunk("x=0 or y=1 or x=1", 1), 1);
        Edge.due("yes and yes and no", sunk("x=1 and y=0 and x=0", 1), 0);
    }

    private static void comparing() {
        Edge.terms(1, "ONE: \"not\" ONE | \"(\" ANY \")\" | WORD (\"<\" | \">\" | \"=\") NUMBER.");
        Edge.due("x 6 < 7", sunk("x<7", 6), 1);
        Edge.due("x 7 < 7", sunk("x<7", 7), 0);
        Edge.due("x 8 < 7", sunk("x<7", 8), 0);
        Edge.due("x 6 > 7", sunk("x>7", 6), 0);
        Edge.due("x 7 > 7", sunk("x>7", 7), 0);
        Edge.due("x 8 > 7", sunk("x>7", 8), 1);
        Edge.due("x 6 = 7", sunk("x=7", 6), 0);
        Edge.due("x 7 = 7", sunk("x=7", 7), 1);
        Edge.due("x 8 = 7", sunk("x=7", 8), 0);
        Edge.due("not yes", sunk("not x=7", 7), 0);
        Edge.due("not no", sunk("not x=7", 8), 1);
        Edge.due("not no and no", sunk("not x=0 and x=0", 1), 0);
        Edge.due("not (no and no)", sunk("not (x=0 and x=0)", 1), 1);
        Edge.due("not no or yes", sunk("not x=1 or x=1", 1), 1);
        Edge.due("not (no or yes)", sunk("not (x=0 or x=1)", 1), 0);
        Edge.due("(yes or yes) and no", sunk("(x=1 or y=0) and x=0", 1), 0);
        Edge.bad(IF + "x;", 11);
        Edge.bad(IF + "x 1;", 12);
        Edge.bad(IF + "x<;", 12);
        Edge.bad(IF + "1<x;", 10);
        Edge.bad(IF + "x<y;", 12);
        Edge.bad(IF + "();", 11);
        Edge.bad(IF + "(x<1;", 14);
        Edge.bad(IF + "x<1);", 13);
        Edge.bad(IF + "not;", 13);
        Edge.bad(IF + "(x);", 12);
    }

    private static void words() {
        Edge.terms(1, "WORD: x, y, age, height, river, coast, wind.");
        for (String word : new String[] {"x", "y", "age", "height", "river", "coast", "wind"}) {
            Edge.good(IF + word + "<1;", 1);
            Edge.bad(IF + word + "s<1;", 10);
            Edge.bad(IF + "a" + word + "<1;", 10);
        }
        for (String word : new String[] {"z", "w", "ag", "ages", "heigh", "live", "sea", "low", "land", "island", "kind"}) {
            Edge.bad(IF + word + "<1;", 10);
        }
    }

    private static void tokens() {
        Edge.terms(1, "Tokens as long as they go: words of letters a to z, digits, signs");
        Edge.good("sea1 2to3;live1if x<1and y<1;", 2);
        Edge.bad("seas 1 2;", 0);
        Edge.bad("se a 1 2;", 0);
        Edge.bad("sea 12;", 6);
        Edge.good("sea 1 2;", 1);
        Edge.bad("catch 1 0;", 8);
        Edge.bad("live 1 ifx<1;", 7);
        Edge.bad(IF + "x<1 orx<1;", 14);
        Edge.bad(IF + "notx<1;", 10);
        Edge.bad(IF + "x<=1;", 12);
        Edge.bad(IF + "x<>1;", 12);
        Edge.bad(IF + "x==1;", 12);
        Edge.good("live 1 if((x<1)or(not(y>2)));", 1);
        Land x = Check.under("catch 10;");
        Edge.due("count(11) of \"catch 10;\"", x.count(11), 10);
    }

    private static void letters() {
        Edge.terms(1, "Tokens as long as they go: words of letters a to z, digits, signs");
        // one step below a and above z, and the great letters
        for (char c : new char[] {'`', '{', '@', 'A', 'X', 'Z', '[', 'a' + 128, '_'}) {
            Edge.bad(IF + c + "<1;", 10);
            Edge.bad(IF + "x" + c + "<1;", 11);
            Edge.bad("live" + c + " 1;", 4);
            Edge.bad("li" + c + "ve 1;", 0);
        }
        for (char c : new char[] {'a', 'b', 'y', 'z'}) {
            Edge.bad("live" + c + " 1;", 0);
            Edge.bad(c + "live 1;", 0);
            Edge.bad("catch 1;" + c, 8);
            Edge.bad("catch 1" + c + ";", 7);
        }
        // one step below 0 and above 9
        for (char c : new char[] {'/', ':', '.', ',', '0' + 128}) {
            Edge.bad("catch " + c + ";", 6);
            Edge.bad("catch 1" + c + ";", 7);
            Edge.bad("catch" + c + "1;", 5);
        }
        Edge.good("catch 0;", 1);
        Edge.good("catch 9;", 1);
    }

    private static void signs() {
        Edge.terms(1, "Tokens as long as they go: words of letters a to z, digits, signs");
        for (char c : new char[] {'<', '=', '>'}) {
            Edge.good(IF + "x" + c + "1;", 1);
        }
        for (char c : new char[] {':', ';', '?', '!', '(', ')', '+', '-'}) {
            Edge.bad(IF + "x" + c + "1;", 11);
        }
        for (char c : new char[] {'\'', ')', '*', '[', '{', '<'}) {
            Edge.bad(IF + c + "x<1);", 10);
        }
        for (char c : new char[] {'\'', '(', '*', ']', '}', ';'}) {
            Edge.bad(IF + "(x<1" + c + ";", 14);
        }
        for (char c : new char[] {':', ',', '.', '<', '=', '('}) {
            Edge.bad("catch 1" + c, 7);
        }
    }

    private static void blanks() {
        Edge.terms(1, "between them blanks (bytes 32 and 10)");
        for (char c : new char[] {32, 10}) {
            Edge.good(c + "catch" + c + c + "1" + c + ";" + c, 1);
            Edge.good("live" + c + "1" + c + "if" + c + "(" + c + "x" + c + "<" + c + "1" + c + ")" + c + ";", 1);
        }
        for (char c : new char[] {0, 8, 9, 11, 13, 31, 33, 42, 127, 128, 138, 160, 255}) {
            Edge.bad(c + "catch 1;", 0);
            Edge.bad("catch" + c + "1;", 5);
            Edge.bad("catch 1" + c + ";", 7);
            Edge.bad("catch 1;" + c, 8);
            Edge.bad("catch 1; " + c, 9);
        }
    }

    private static void open() {
        Edge.terms(1, "\"not\" and \"(\": at most 9 open in one another.");
        Edge.good(IF + "not ".repeat(8) + "x<1;", 1);
        Edge.good(IF + "not ".repeat(9) + "x<1;", 1);
        Edge.bad(IF + "not ".repeat(10) + "x<1;", 46);
        Edge.bad(IF + "not ".repeat(11) + "x<1;", 46);
        Edge.good(IF + "(".repeat(8) + "x<1" + ")".repeat(8) + ";", 1);
        Edge.good(IF + "(".repeat(9) + "x<1" + ")".repeat(9) + ";", 1);
        Edge.bad(IF + "(".repeat(10) + "x<1" + ")".repeat(10) + ";", 19);
        Edge.bad(IF + "(".repeat(11) + "x<1" + ")".repeat(11) + ";", 19);
        Edge.good(IF + "not ".repeat(8) + "(x<1);", 1);
        Edge.bad(IF + "not ".repeat(9) + "(x<1);", 46);
        Edge.good(IF + "(".repeat(8) + "not x<1" + ")".repeat(8) + ";", 1);
        Edge.bad(IF + "(".repeat(9) + "not x<1" + ")".repeat(9) + ";", 19);
        Edge.good(IF + "not(".repeat(4) + "not x<1" + ")".repeat(4) + ";", 1);
        Edge.bad(IF + "not(".repeat(5) + "x<1" + ")".repeat(5) + ";", 29);
        String nine = "(".repeat(9) + "x<1" + ")".repeat(9);
        Edge.good(IF + nine + "and" + nine + "or" + nine + ";", 1);
        Edge.good(IF + "(".repeat(8) + "(x<1)and(x<1)or not x<1" + ")".repeat(8) + ";", 1);
        Edge.bad(IF + "(".repeat(8) + "(x<1)and((x<1))" + ")".repeat(8) + ";", 27);
        Edge.good(IF + "not ".repeat(9) + "x<1 and " + "not ".repeat(9) + "x<1;", 1);
        Edge.good(IF + "(".repeat(8) + "not x<1 and not x<1" + ")".repeat(8) + ";live 1 if " + nine + ";", 2);
        Edge.bad(IF + "(".repeat(8) + "not x<1 and not not x<1" + ")".repeat(8) + ";", 34);
        Edge.bad(IF + "(".repeat(9) + "x<1" + ")".repeat(10) + ";", 31);
        Edge.bad(IF + "(".repeat(9) + "x<1" + ")".repeat(8) + ";", 30);
    }

    private static void openMeans() {
        Edge.terms(1, "\"not\" and \"(\": at most 9 open in one another.");
        Edge.due("eight \"not\" of yes", sunk("not ".repeat(8) + "x=1", 1), 1);
        Edge.due("eight \"not\" of no", sunk("not ".repeat(8) + "x=1", 2), 0);
        Edge.due("nine \"not\" of yes", sunk("not ".repeat(9) + "x=1", 1), 0);
        Edge.due("nine \"not\" of no", sunk("not ".repeat(9) + "x=1", 2), 1);
        // each bracket keeps one thing that is yet to be asked behind it: yes and (yes and (..))
        String deep = "x=1 and(".repeat(9) + "x=1" + ")".repeat(9);
        Edge.due("nine \"and(\" of yes", sunk(deep, 1), 1);
        Edge.due("nine \"and(\" of no", sunk(deep, 2), 0);
        String last = "x>0 and(".repeat(9) + "x=1" + ")".repeat(9);
        Edge.due("nine \"and(\" with a last yes", sunk(last, 1), 1);
        Edge.due("nine \"and(\" with a last no", sunk(last, 2), 0);
        String either = "x=9 or y=9 and(".repeat(9) + "x=1" + ")".repeat(9);
        Edge.due("\"x=9 or y=9 and(\" at x 1, y 0", sunk(either, 1), 0);
        Edge.due("\"x=9 or y=9 and(\" at x 9, y 0", sunk(either, 9), 1);
        Edge.due("\"x=9 or y=9 and(\" at x 1, y 9", sunk(either, 145), 1);
        Edge.due("\"x=9 or y=9 and(\" at x 2, y 9", sunk(either, 146), 0);
    }

    private static void firstToken() {
        Edge.terms(1, "FAULT: the place of the first byte of the first token (or byte that begins none) with which no such text goes on");
        Edge.bad("foo 1;", 0);
        Edge.bad(" foo 1;", 1);
        Edge.bad("7;", 0);
        Edge.bad("if;", 0);
        Edge.bad("catch 5 if x<1;", 8);
        Edge.bad("carry fished 5 if x<1;", 15);
        Edge.bad("sea 1 5 if x<1;", 8);
        Edge.bad("live 5 to 6;", 7);
        Edge.bad("live 5 or x<1;", 7);
        Edge.bad("live if x<1;", 5);
        Edge.bad("sea 5;", 5);
        Edge.bad("sea;", 3);
        Edge.bad("sea to 5;", 4);
        Edge.bad("sea 100 100;foo", 4);
        Edge.bad("sea 1 100;sea 100 1;", 6);
        Edge.bad("\0", 0);
        Edge.bad("catch\0 11;", 5);
        Edge.bad("catch 11\0;", 6);
        Edge.bad("catch 1;\u00ff", 8);
        Edge.bad("catch 1;catch 1\n\n,", 17);
        Edge.bad("live 1 if x<1 and\n(y<1 or coast<1)) ;", 34);
    }

    private static void numbersThatAreNotSo() {
        Edge.terms(1, "(a number that isn't so, the tenth open, too)");
        Edge.bad("sea 0100 5;", 4);
        Edge.bad("sea 99 0100;", 7);
        Edge.bad("sea 99 99 to 0098;", 13);
        Edge.bad("catch 0011", 6);
        Edge.bad("catch 12345", 6);
        Edge.bad("catch 11 foo", 6);
        Edge.bad(IF + "x<10000 foo", 12);
        Edge.bad(IF + "(".repeat(10), 19);
        Edge.bad(IF + "(".repeat(9) + "not", 19);
        Edge.bad(IF + "not ".repeat(9) + "not", 46);
        Edge.bad(IF + "not ".repeat(9) + "foo", 46);
    }

    /** What the first n bytes of a text answer, for each n: a FAULT's place, or -1 for a LAW. */
    private static void prefixes(String text, int... due) {
        for (int n = 0; n <= text.length(); n++) {
            Land x = new Land();
            Check.feed(x, Check.bytes(text));
            Edge.due("law(" + n + ") of \"" + text + "\"", x.law(n), due[n] >= 0 ? -1 : n == 0 ? 0 : 1);
            Edge.due("fault() of the first " + n + " of \"" + text + "\"", x.fault(), due[n]);
        }
    }

    private static void moreMustCome() {
        Edge.terms(1, "the text's length, if more must come");
        prefixes("keep 5 if not(x<3);", -1, 0, 0, 0, 4, 5, 6, 7, 7, 9, 10, 10, 10, 13, 14, 15, 16, 17, 18, -1);
        prefixes("sea 5 7 to 9;", -1, 0, 0, 3, 4, 5, 6, 7, 8, 8, 10, 11, 12, -1);
        prefixes("carry cored 100;", -1, 0, 0, 0, 0, 5, 6, 6, 6, 6, 6, 11, 12, 13, 14, 15, -1);
        prefixes("catch 10;", -1, 0, 0, 0, 0, 5, 6, 7, 8, -1);
        Edge.bad("catch 1 \n ", 10);
        Edge.bad("catch 1; live", 13);
        Edge.bad(IF + "(".repeat(9) + "x<1" + ")".repeat(9), 31);
        Edge.bad(IF + "(x<1 or", 17);
        Edge.bad("catch" + " ".repeat(695), 700);
        Edge.good("catch 1;" + " ".repeat(692), 1);
        Edge.good(" ".repeat(692) + "catch 1;", 1);
        Edge.bad(" ".repeat(693) + "catch 1", 700);
    }

    private static void lastTold() {
        Edge.terms(1, "The one told last holds; at first one without RULES.");
        Land x = new Land();
        Edge.due("RULES at first", x.count(0), 0);
        Edge.due("\"catch\" at first", x.count(11), 0);
        Edge.due("SEA at first", x.sea(99, 1), 0);
        Edge.due("KEEP at first", x.asked(0, 0, 7), 100);
        Edge.due("the first told", Check.law(x, "sea 10 20;sink 3;live 4;catch 5;carry cored 6;"), 5);
        Edge.due("the second told", Check.law(x, "fish 7;"), 1);
        Edge.due("RULES", x.count(0), 1);
        Edge.due("SEA of the first", x.sea(10, 0), 0);
        Edge.due("SUNK of the first", x.cell(0, 2), 0);
        Edge.due("LIVE of the first", x.asked(0, 0, 5), 0);
        Edge.due("\"catch\" of the first", x.count(11), 0);
        Edge.due("\"carry\" of the first", x.count(13), 0);
        Edge.due("FISH of the second", x.asked(0, 0, 6), 7);
        Edge.due("a third with a FAULT at its end", Check.law(x, "sea 10 20;sink 3;fish 9;catch 5;carry cored 6;catch 11;"), -1);
        Edge.due("RULES", x.count(0), 1);
        Edge.due("FISH", x.asked(0, 0, 6), 7);
        Edge.due("SEA", x.sea(10, 0), 0);
        Edge.due("SUNK", x.cell(0, 2), 0);
        Edge.due("\"catch\"", x.count(11), 0);
        Edge.due("\"carry\"", x.count(13), 0);
        Edge.due("one without RULES", x.law(0), 0);
        Edge.due("FISH then", x.asked(0, 0, 6), 0);
        // none of those told ahead of it comes back
        for (int again = 0; again < 3; again++) {
            Edge.due("SEA then", x.sea(10, 0), 0);
            Edge.due("SUNK then", x.cell(0, 2), 0);
            Edge.due("LIVE then", x.asked(0, 0, 5), 0);
            Edge.due("\"catch\" then", x.count(11), 0);
            Edge.due("\"carry\" then", x.count(13), 0);
            Edge.due("RULES then", x.count(0), 0);
            Edge.due("one more without RULES", x.law(0), 0);
        }
    }

    private static void lastToldOfSea() {
        Edge.terms(1, "The one told last holds; at first one without RULES.");
        for (int age : new int[] {0, 1, 98, 99}) {
            Land x = Check.under("sea " + age + " 20 to 30;");
            for (int again = 0; again < 3; again++) {
                Edge.due("SEA of the first, " + again, x.sea(age, 0), again == 0 ? 20 : 0);
                Edge.due("SEA of the first, " + again, x.sea(99, 1), again == 0 ? 30 : 0);
                x.law(0);
            }
            Check.law(x, "sea 50 7;");
            Edge.due("SEA of the last at AGE 49", x.sea(49, 1), 0);
            Edge.due("SEA of the last at AGE 99", x.sea(99, 1), 7);
        }
    }

    /** LAWS as long as the tape is, one behind the other: each holds to its last word. */
    private static void lastToldOfLong() {
        Edge.terms(1, "The one told last holds; at first one without RULES.");
        Land x = new Land();
        for (int i = 0; i < 12; i++) {
            StringBuilder law = new StringBuilder("sink " + (i + 1) + " if ");
            while (law.length() < 680) {
                law.append("x>9 or ");
            }
            law.append("x=").append(i % 9).append(';');
            Edge.due("LAW " + i, Check.law(x, law.toString()), 1);
            Edge.due("its last word holds", x.cell(i % 9, 2), i + 1);
            Edge.due("its last word doesn't", x.cell((i + 1) % 9, 2), 0);
            Edge.due("its first words hold", x.cell(10, 2), i + 1);
        }
    }

    /** CELL 100 has x 4, y 6, and at AGE 50 a height of 39, a river of 4, a coast of 2 and a wind of 8. */
    private static void askedOfAll() {
        Edge.terms(1, "LIVE, FISH, KEEP of a CELL at an AGE: N of the first that holds (asked all), else 0, 0, 100.");
        String[] words = {"x", "y", "age", "height", "river", "coast", "wind"};
        int[] values = {4, 6, 50, 39, 4, 2, 8};
        for (int i = 0; i < words.length; i++) {
            for (int value = values[i] - 1; value <= values[i] + 1; value++) {
                for (char sign : new char[] {'<', '=', '>'}) {
                    String condition = words[i] + sign + value;
                    boolean holds = sign == '<' ? values[i] < value : sign == '>' ? values[i] > value : values[i] == value;
                    Land x = Check.under("sea 50 10;live 1 if " + condition + ";fish 1 if " + condition + ";keep 1 if " + condition + ";");
                    x.sound(100, 49, 49);
                    x.sound(102, 0, 0);
                    Edge.due("LIVE if " + condition, x.asked(100, 50, 5), holds ? 1 : 0);
                    Edge.due("FISH if " + condition, x.asked(100, 50, 6), holds ? 1 : 0);
                    Edge.due("KEEP if " + condition, x.asked(100, 50, 7), holds ? 1 : 100);
                }
            }
        }
    }

    private static void sea() {
        Edge.terms(1, "both LEVELS (alike without \"to\") of the \"sea\" of the latest AGE up to it, of one AGE the last; 0 and 0 without.");
        Land x = Check.under("sea 50 30 to 40;sea 10 5;sea 50 31 to 41;sea 99 0 to 99;");
        int[] ages = {0, 9, 10, 11, 49, 50, 51, 98, 99};
        int[] lesser = {0, 0, 5, 5, 5, 31, 31, 31, 0};
        int[] greater = {0, 0, 5, 5, 5, 41, 41, 41, 99};
        for (int i = 0; i < ages.length; i++) {
            Edge.due("sea(" + ages[i] + ", 0)", x.sea(ages[i], 0), lesser[i]);
            Edge.due("sea(" + ages[i] + ", 1)", x.sea(ages[i], 1), greater[i]);
        }
        x = Check.under("sea 0 7 to 8;sea 1 6;");
        Edge.due("sea(0, 0)", x.sea(0, 0), 7);
        Edge.due("sea(0, 1)", x.sea(0, 1), 8);
        Edge.due("sea(1, 1)", x.sea(1, 1), 6);
        Edge.due("sea(99, 1)", x.sea(99, 1), 6);
        x = new Land();
        Edge.due("sea(0, 0) without", x.sea(0, 0), 0);
        Edge.due("sea(99, 1) without", x.sea(99, 1), 0);
    }

    private static void sunkIsAsked() {
        Edge.terms(1, "SUNK of a CELL: N of the first \"sink\" that holds (asked x, y alone, all else 0), else 0");
        for (String word : new String[] {"age", "height", "river", "coast", "wind"}) {
            Edge.due(word + "=0", sunk(word + "=0", 17), 1);
            Edge.due(word + "<1", sunk(word + "<1", 17), 1);
            Edge.due(word + ">0", sunk(word + ">0", 17), 0);
            Edge.due(word + "=1", sunk(word + "=1", 17), 0);
        }
        Edge.due("x=15 of CELL 15", sunk("x=15", 15), 1);
        Edge.due("x=0 of CELL 16", sunk("x=0", 16), 1);
        Edge.due("y=0 of CELL 15", sunk("y=0", 15), 1);
        Edge.due("y=1 of CELL 16", sunk("y=1", 16), 1);
        Edge.due("x=15 and y=15 of CELL 255", sunk("x=15 and y=15", 255), 1);
        Edge.due("x>15 of CELL 255", sunk("x>15 or y>15", 255), 0);
        Land x = Check.under("sink 3 if x=0;sink 4 if y=0;sink 5 if x=1;");
        Edge.due("the first of two that hold", x.cell(0, 2), 3);
        Edge.due("the second of three", x.cell(1, 2), 4);
        Edge.due("the last of three", x.cell(17, 2), 5);
        Edge.due("none that holds", x.cell(18, 2), 0);
        Edge.due("a \"live\" isn't a \"sink\"", Check.under("live 9;fish 9;keep 9;").cell(0, 2), 0);
    }

    private static void firstThatHolds() {
        Edge.terms(1, "LIVE, FISH, KEEP of a CELL at an AGE: N of the first that holds (asked all), else 0, 0, 100.");
        String[] kinds = {"live", "fish", "keep"};
        for (int i = 0; i < 3; i++) {
            int what = 5 + i;
            Land x = Check.under(kinds[i] + " 3 if x=0;" + kinds[i] + " 4 if y=0;" + kinds[i] + " 5 if age=50;");
            Edge.due(kinds[i] + ": the first of two that hold", x.asked(0, 50, what), 3);
            Edge.due(kinds[i] + ": the second of three", x.asked(1, 50, what), 4);
            Edge.due(kinds[i] + ": the last of three", x.asked(17, 50, what), 5);
            Edge.due(kinds[i] + ": an AGE earlier", x.asked(17, 49, what), i == 2 ? 100 : 0);
            Edge.due(kinds[i] + ": an AGE later", x.asked(17, 51, what), i == 2 ? 100 : 0);
            Edge.due(kinds[i] + ": without", new Land().asked(0, 0, what), i == 2 ? 100 : 0);
            // CELL 17 is x 1, y 1, 49 high at no sea; its river is 1 and no CELL is at the coast
            String all = "x=1 and y=1 and age=7 and height=49 and river=1 and coast=99 and wind=0";
            Edge.due(kinds[i] + ": asked all", Check.under(kinds[i] + " 8 if " + all + ";").asked(17, 7, what), 8);
            Edge.due(kinds[i] + ": of another kind", Check.under("sink 8;").asked(17, 7, what), i == 2 ? 100 : 0);
        }
    }

    private static void catchAndCarry() {
        Edge.terms(1, "\"catch\", \"carry\" of a HOW: the last one; without: 0.");
        Land x = Check.under("catch 4;carry cored 1;catch 6;carry cored 2;carry fished 3;");
        Edge.due("\"catch\"", x.count(11), 6);
        Edge.due("\"carry\" fished", x.count(12), 3);
        Edge.due("\"carry\" cored", x.count(13), 2);
        Edge.due("\"carry\" grabbed, without", x.count(14), 0);
        x = Check.under("catch 4;catch 0;carry cored 5;carry cored 0;");
        Edge.due("\"catch\": the last is 0", x.count(11), 0);
        Edge.due("\"carry\": the last is 0", x.count(13), 0);
    }

    private static void feeding() {
        Edge.promise(3, "Twenty bytes come behind those on the tape, of each number the highest first: how many there are.");
        Land x = new Land();
        Edge.due("feed", x.feed(0x63617463, 0x68202020, 0x20202020, 0x20202020, 0x20202020), 20);
        Edge.due("feed", x.feed(0x20202020, 0x20202020, 0x20202020, 0x20202020, 0x20203037), 40);
        Edge.due("feed", x.feed(0x3b202020, 0x20202020, 0x20202020, 0x20202020, 0x20202020), 60);
        Edge.due("bytes", x.count(6), 60);
        Edge.due("law(40) needs a \";\"", x.law(40), -1);
        Edge.due("fault()", x.fault(), 40);
        x.feed(0x63617463, 0x68202020, 0x20202020, 0x20202020, 0x20202020);
        x.feed(0x20202020, 0x20202020, 0x20202020, 0x20202020, 0x20203037);
        x.feed(0x3b202020, 0x20202020, 0x20202020, 0x20202020, 0x20202020);
        Edge.due("law(41)", x.law(41), 1);
        Edge.due("\"catch\"", x.count(11), 7);
        // each byte of the twenty is where it should be: a byte that begins no token in place of a blank
        for (int at = 0; at < 20; at++) {
            for (int wrong : new int[] {0, 128, 255}) {
                byte[] text = Check.bytes(" ".repeat(20));
                text[at] = (byte) wrong;
                x = new Land();
                Check.feed(x, text);
                Edge.due("law(20) with a byte " + wrong + " at " + at, x.law(20), -1);
                Edge.due("fault() with a byte " + wrong + " at " + at, x.fault(), at);
            }
        }
    }

    private static void feedingTooMuch() {
        Edge.promise(3, "NONE, doing nothing (not REFUSED): there would be more than 700.");
        Land x = new Land();
        Check.feed(x, Check.bytes("catch 3;" + " ".repeat(672)));
        Edge.due("bytes", x.count(6), 680);
        Edge.due("feed up to 700", x.feed(0x20202020, 0x20202020, 0x20202020, 0x20202020, 0x2020200a), 700);
        Edge.due("feed up to 720", x.feed(0, 0, 0, 0, 0), -1);
        Edge.due("feed once more", x.feed(-1, -1, -1, -1, -1), -1);
        Edge.due("bytes", x.count(6), 700);
        for (int what = 8; what <= 10; what++) {
            Edge.due("REFUSED " + what, x.count(what), 0);
        }
        Edge.due("law(701)", x.law(701), -2);
        Edge.due("law(700)", x.law(700), 1);
        Edge.due("\"catch\"", x.count(11), 3);
        Edge.due("feed on the empty tape", x.feed(0, 0, 0, 0, 0), 20);
    }

    private static void telling() {
        Edge.promise(4, "The first n bytes of the tape (which is empty then, with a FAULT, too) are the LAW: how many RULES.");
        for (int n : new int[] {0, 7, 8, 9, 16, 19, 20}) {
            Land x = new Land();
            Check.feed(x, Check.bytes("catch 7;catch 8;"));
            Edge.due("law(" + n + ")", x.law(n), n == 0 ? 0 : n == 8 ? 1 : n >= 16 ? 2 : -1);
            Edge.due("fault() of " + n, x.fault(), n == 7 ? 7 : n == 9 ? 8 : -1);
            Edge.due("bytes after law(" + n + ")", x.count(6), 0);
            Edge.due("\"catch\" after law(" + n + ")", x.count(11), n == 8 ? 7 : n >= 16 ? 8 : 0);
            Edge.due("law(1) of the empty tape", x.law(1), -2);
        }
        Edge.promise(4, "NONE: a FAULT (the one there was stays)");
        Land x = Check.under("catch 7;live 3;");
        x.asked(0, 0, 5);
        Edge.due("a FAULT", Check.law(x, "catch 8;live 100;"), -1);
        Edge.due("RULES", x.count(0), 2);
        Edge.due("\"catch\"", x.count(11), 7);
        Edge.due("LIVE", x.asked(0, 0, 5), 3);
        Edge.due("REFUSED not as told", x.count(8), 0);
        Edge.due("REFUSED for room", x.count(9), 0);
        Edge.due("REFUSED for a FAULT", x.count(10), 1);
    }

    private static void tellingWrongly() {
        Edge.promise(4, "-2, doing nothing but REFUSED: n is below 0 or more than there are.");
        Land x = Check.under("catch 7;");
        Check.feed(x, Check.bytes("catch 8;live;       "));
        int refused = 0;
        for (int n : new int[] {-1, -2, Integer.MIN_VALUE, 21, 22, 700, 701, Integer.MAX_VALUE}) {
            Edge.due("law(" + n + ") of 20", x.law(n), -2);
            refused++;
            Edge.due("REFUSED not as told", x.count(8), refused);
            Edge.due("bytes", x.count(6), 20);
            Edge.due("RULES", x.count(0), 1);
            Edge.due("\"catch\"", x.count(11), 7);
            Edge.due("fault()", x.fault(), -1);
        }
        Edge.due("REFUSED for a FAULT", x.count(10), 0);
        Edge.due("law(20) of 20", x.law(20), -1);
        Edge.due("fault()", x.fault(), 12);
        x = new Land();
        Edge.due("law(0) of an empty tape", x.law(0), 0);
        Edge.due("law(1) of an empty tape", x.law(1), -2);
        Edge.due("law(-1) of an empty tape", x.law(-1), -2);
    }

    private static void faults() {
        Edge.promise(5, "The FAULT's place of the latest law() that was a number or NONE; NONE: it had none.");
        Land x = new Land();
        Edge.due("ahead of any law()", x.fault(), -1);
        Edge.due("law(1)", x.law(1), -2);
        Edge.due("after -2", x.fault(), -1);
        Edge.due("a FAULT at 0", Check.law(x, ";"), -1);
        Edge.due("fault()", x.fault(), 0);
        Edge.due("law(-1)", x.law(-1), -2);
        Edge.due("after -2", x.fault(), 0);
        Edge.due("a FAULT at 6", Check.law(x, "catch 11;"), -1);
        Edge.due("the latest", x.fault(), 6);
        Edge.due("no RULES", x.law(0), 0);
        Edge.due("it had none", x.fault(), -1);
        Edge.due("a FAULT at 700", Check.law(x, "live" + " ".repeat(696)), -1);
        Edge.due("fault()", x.fault(), 700);
        Edge.due("a LAW", Check.law(x, "catch 1;"), 1);
        Edge.due("it had none", x.fault(), -1);
        Edge.due("law(9)", x.law(9), -2);
        Edge.due("after -2", x.fault(), -1);
    }

    private static void askingForSea() {
        Edge.promise(6, "SEA at an AGE: the lesser LEVEL (what 0), the greater (1). NONE: none such.");
        Land x = Check.under("sea 0 3 to 4;sea 99 5 to 6;");
        Edge.due("sea(-1, 0)", x.sea(-1, 0), -1);
        Edge.due("sea(0, 0)", x.sea(0, 0), 3);
        Edge.due("sea(98, 1)", x.sea(98, 1), 4);
        Edge.due("sea(99, 0)", x.sea(99, 0), 5);
        Edge.due("sea(99, 1)", x.sea(99, 1), 6);
        Edge.due("sea(100, 1)", x.sea(100, 1), -1);
        Edge.due("sea(0, -1)", x.sea(0, -1), -1);
        Edge.due("sea(0, 2)", x.sea(0, 2), -1);
    }
}
