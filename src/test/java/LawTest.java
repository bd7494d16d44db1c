/** Promises 3 (feed), 4 (law), 5 (fault), 6 (sea) and the form of a LAW. */
public final class LawTest {
    private LawTest() {
    }

    public static void main(String[] args) {
        feeding();
        telling();
        seaByAges();
        faultsOfRules();
        faultsOfNumbers();
        faultsOfConditions();
        tokens();
        opens();
        fortyRules();
        conditions();
        Check.end("LawTest");
    }

    private static void feeding() {
        Land x = new Land();
        for (int i = 1; i <= 35; i++) {
            Check.due("feed " + i, x.feed(0, -1, 1, 2, 3), 20 * i);
        }
        Check.due("feed of bytes 701 to 720", x.feed(0, 0, 0, 0, 0), -1);
        Check.due("bytes then", x.count(6), 700);
        Check.due("a feed without room isn't REFUSED", x.count(8) + x.count(9) + x.count(10), 0);
        Check.due("law of bytes 0, 255", x.law(700), -1);
        Check.due("its fault", x.fault(), 0);
        Check.due("tape after a FAULT", x.count(6), 0);
        Check.due("the highest byte comes first", x.feed(0x63617463, 0x6820373b, 0, 0, 0), 20);
        Check.due("catch 7;", x.law(8), 1);
        Check.due("catch", x.count(11), 7);
    }

    private static void telling() {
        Land x = new Land();
        Check.due("no law yet: fault", x.fault(), -1);
        Check.due("law(0) of an empty tape", x.law(0), 0);
        Check.due("law(1) of an empty tape", x.law(1), -2);
        Check.due("law(-1)", x.law(-1), -2);
        Check.due("REFUSED not as told", x.count(8), 2);
        Check.due("law", Check.law(x, "catch 4; live 5;"), 2);
        x.feed(0x63617463, 0x68203b20, 0x20202020, 0x20202020, 0x20202020);
        Check.due("law(21) of 20 bytes", x.law(21), -2);
        Check.due("it leaves the tape", x.count(6), 20);
        Check.due("and the FAULT", x.fault(), -1);
        Check.due("catch ;", x.law(7), -1);
        Check.due("fault", x.fault(), 6);
        Check.due("the tape is empty", x.count(6), 0);
        Check.due("REFUSED for a FAULT", x.count(10), 1);
        Check.due("the old LAW stays", x.count(0), 2);
        Check.due("with its catch", x.count(11), 4);
        Check.due("law(-2) after it", x.law(-2), -2);
        Check.due("the FAULT stays", x.fault(), 6);
        x.feed(0x63617463, 0x6820373b, 0, 0, 0);
        Check.due("only the first n bytes count", x.law(8), 1);
        Check.due("fault none", x.fault(), -1);
        Check.due("all the tape is empty", x.count(6), 0);
        Check.due("law of nothing", x.law(0), 0);
        Check.due("the last told holds", x.count(11), 0);
    }

    private static void seaByAges() {
        Land x = new Land();
        Check.due("sea without", x.sea(0, 0), 0);
        Check.due("sea without", x.sea(99, 1), 0);
        Check.law(x, "sea 50 30 to 40;sea 10 5;sea 50 31 to 41;sea 99 0;sea 70 99 to 99;sea 10 6;");
        Check.due("ahead of the first", x.sea(9, 1), 0);
        Check.due("of one AGE the last", x.sea(10, 0), 6);
        Check.due("without to alike", x.sea(10, 1), 6);
        Check.due("up to it", x.sea(49, 1), 6);
        Check.due("lesser", x.sea(50, 0), 31);
        Check.due("greater", x.sea(69, 1), 41);
        Check.due("to the same", x.sea(98, 0), 99);
        Check.due("it falls too", x.sea(99, 1), 0);
        Check.due("no such AGE", x.sea(-1, 0), -1);
        Check.due("no such AGE", x.sea(100, 0), -1);
        Check.due("no such what", x.sea(5, 2), -1);
        Check.due("no such what", x.sea(5, -1), -1);
        Check.law(x, "sea 0 3;");
        Check.due("a new LAW has none of the old SEA", x.sea(60, 0), 3);
    }

    private static void fault(String text, int place) {
        Land x = new Land();
        Check.due("\"" + text + "\"", Check.law(x, text), -1);
        Check.due("\"" + text + "\" fault", x.fault(), place);
        Check.due("\"" + text + "\" RULES", x.count(0), 0);
    }

    private static void good(String text, int rules) {
        Land x = new Land();
        Check.due("\"" + text + "\"", Check.law(x, text), rules);
        Check.due("\"" + text + "\" fault", x.fault(), -1);
        Check.due("\"" + text + "\" RULES", x.count(0), rules);
    }

    private static void faultsOfRules() {
        good("", 0);
        good(" \n ", 0);
        fault(";", 0);
        fault(" foo", 1);
        fault("sea", 3);
        fault("sea  ", 5);
        fault("sea 5 7", 7);
        fault("sea 5 7 to", 10);
        fault("sea 5 7 if x>1;", 8);
        fault("sea 5 7 9;", 8);
        fault("sea 5 7;;", 8);
        fault("sea to 7;", 4);
        fault("sea;", 3);
        fault("sea 5;", 5);
        fault("sea 5 7 to;", 10);
        fault("carry;", 5);
        fault("catch;", 5);
        fault("live;", 4);
        fault("live 5 if;", 9);
        fault("carry 5;", 6);
        fault("carry sea 5;", 6);
        fault("carry fished;", 12);
        fault("carry fished 5 if x>1;", 15);
        fault("catch x;", 6);
        fault("catch 5 if x>1;", 8);
        fault("live if x>1;", 5);
        fault("live 5 x>1;", 7);
        fault("live 5 to 6;", 7);
        fault("catch 1", 7);
        good("carry fished 1;carry cored 2;carry grabbed 3;carry cored 4;", 4);
    }

    private static void faultsOfNumbers() {
        good("sea 99 99;", 1);
        fault("sea 100 5;", 4);
        fault("sea 5 100;", 6);
        fault("sea 5 7 to 6;", 11);
        good("sea 5 7 to 7;", 1);
        fault("sea 5 7 to 100;", 11);
        good("sink 99;", 1);
        fault("sink 100;", 5);
        good("live 99;", 1);
        fault("live 100;", 5);
        good("fish 99;", 1);
        fault("fish 100;", 5);
        good("keep 100;", 1);
        fault("keep 101;", 5);
        good("carry fished 100;", 1);
        fault("carry fished 101;", 13);
        good("catch 10;", 1);
        fault("catch 11;", 6);
        good("catch 0010;", 1);
        fault("catch 00010;", 6);
        fault("catch 00000000000000000000001;", 6);
        fault("catch 4294967297;", 6);
        fault("live 5 if x > 10000;", 14);
        good("live 5 if x > 9999;", 1);
        fault("live -5;", 5);
    }

    private static void faultsOfConditions() {
        fault("live 5 if", 9);
        fault("live 5 if ;", 10);
        fault("live 5 if z>1;", 10);
        fault("live 5 if x;", 11);
        fault("live 5 if x>;", 12);
        fault("live 5 if x>y;", 12);
        fault("live 5 if x!1;", 11);
        fault("live 5 if x>=1;", 12);
        fault("live 5 if x>1 and", 17);
        fault("live 5 if x>1 and;", 17);
        fault("live 5 if x>1 or or;", 17);
        fault("live 5 if x>1 not y>1;", 14);
        fault("live 5 if x>1 y>1;", 14);
        fault("live 5 if (x>1;", 14);
        fault("live 5 if (x>1", 14);
        fault("live 5 if x>1);", 13);
        fault("live 5 if ();", 11);
        fault("live 5 if not;", 13);
        fault("live 5 if not and;", 14);
        fault("live 5 if (x>1))", 15);
        good("live 5 if((x>1))and not(y<2 or age=3);", 1);
        good("live 5 if not not x>1;", 1);
    }

    private static void tokens() {
        good("sea0 5to6;live1if x=1and y=2;", 2);
        good("\n sea\n0 5 ; ", 1);
        fault("live 5 ifx>1;", 7);
        fault("livee 5;", 0);
        fault("Live 5;", 0);
        fault("live\t5;", 4);
        fault("live 5;\0", 7);
        fault("live 5;\u00e9", 7);
        fault("live 5\r;", 6);
        fault("l ive 5;", 0);
        fault("live 5;sea 1 5,", 14);
        fault("catch 1 0;", 8);
        fault("livez 5;", 0);
        fault("live 5 if zx>1;", 10);
        cutBehind("live 5 iffoo", 9, 9);
        cutBehind("catch 55;", 7, 7);
        cutBehind("sea 0 5;catchy", 13, 13);
        cutBehind("sea 0 5;catch", 12, 8);
    }

    /** A token goes no further than the first n bytes do. */
    private static void cutBehind(String text, int n, int place) {
        Land x = new Land();
        Check.feed(x, Check.bytes(text));
        Check.due(n + " bytes of \"" + text + "\"", x.law(n), -1);
        Check.due(n + " bytes of \"" + text + "\" fault", x.fault(), place);
    }

    private static void opens() {
        String nots = "not not not not not not not not not ";
        good("live 1 if " + nots + "x>1;", 1);
        fault("live 1 if " + nots + "not x>1;", 10 + nots.length());
        fault("live 1 if " + nots + "(x>1);", 10 + nots.length());
        good("live 1 if (((((((((x>1)))))))));", 1);
        fault("live 1 if ((((((((((x>1))))))))));", 19);
        fault("live 1 if (((((((((not x>1)))))))));", 19);
        good("live 1 if (((((((((x>1)))))))))and(((((((((x>1)))))))));", 1);
        good("live 1 if not(not(not(not(not x>1 and not y>2 and not y>3))));", 1);
        fault("live 1 if not(not(not(not(not not x>1 or y>2))));", 30);
        good("live 1 if " + nots + "x>1 and " + nots + "x>1;", 1);
    }

    private static void fortyRules() {
        StringBuilder s = new StringBuilder();
        for (int i = 0; i < 40; i++) {
            s.append("live ").append(i).append(" ;\n");
        }
        good(s.toString(), 40);
        fault(s + " live 1;", s.length() + 1);
        fault(s + ";", s.length());
        fault(s + "\0", s.length());
    }

    private static int sunkWith(String condition, int cell) {
        Land x = Check.under("sink 7 if " + condition + ";");
        return x.cell(cell, 2);
    }

    /** CELL 35 is x 3, y 2. */
    private static void conditions() {
        Check.due("x=3", sunkWith("x=3", 35), 7);
        Check.due("x=2", sunkWith("x=2", 35), 0);
        Check.due("x<3", sunkWith("x<3", 35), 0);
        Check.due("x<4", sunkWith("x<4", 35), 7);
        Check.due("x>3", sunkWith("x>3", 35), 0);
        Check.due("x>2", sunkWith("x>2", 35), 7);
        Check.due("y=2", sunkWith("y=2", 35), 7);
        Check.due("and goes ahead of or", sunkWith("x=3 or x=1 and y=9", 35), 7);
        Check.due("and goes ahead of or", sunkWith("y=9 and x=1 or x=3", 35), 7);
        Check.due("brackets", sunkWith("(x=3 or x=1) and y=9", 35), 0);
        Check.due("not binds to one", sunkWith("not x=1 and y=2", 35), 7);
        Check.due("not binds to one", sunkWith("not x=3 or y=2", 35), 7);
        Check.due("not of brackets", sunkWith("not (x=3 or y=9)", 35), 0);
        Check.due("not not", sunkWith("not not x=3", 35), 7);
        Check.due("three or", sunkWith("x=1 or x=2 or x=3", 35), 7);
        Check.due("three and", sunkWith("x=3 and y=2 and x=2", 35), 0);
        Check.due("sink is asked x and y alone", sunkWith("age=0 and height=0 and river=0 and coast=0 and wind=0", 35), 7);
        Land x = Check.under("sink 1 if x=9;sink 2 if x=3;sink 3;sink 4;");
        Check.due("the first that holds", x.cell(35, 2), 2);
        Check.due("the first that holds", x.cell(34, 2), 3);
    }
}
