/** Promises 17 (find), 18 (found), 39 (image), 40 (restore), 41 (count). */
public final class ToldTest {
    private ToldTest() {
    }

    public static void main(String[] args) {
        finding();
        imaging();
        keepingApart();
        counting();
        Check.end("ToldTest");
    }

    private static void finding() {
        Land x = new Land();
        Check.due("no FIND", x.found(0, 0), -1);
        Check.due("CELL 256", x.find(256, 0, 0, 0), -1);
        Check.due("CELL -1", x.find(-1, 0, 0, 0), -1);
        Check.due("HOW 3", x.find(0, 3, 0, 0), -1);
        Check.due("HOW -1", x.find(0, -1, 0, 0), -1);
        Check.due("AGE -1", x.find(0, 0, -1, 0), -1);
        Check.due("AGE 100", x.find(0, 0, 0, 100), -1);
        Check.due("from behind to", x.find(0, 0, 6, 5), -1);
        Check.due("not as told", x.count(8), 7);
        for (int i = 0; i < 60; i++) {
            Check.due("find", x.find(100 + i, i % 3, i, i + 39), i);
        }
        Check.due("the 61st", x.find(0, 0, 0, 0), -1);
        Check.due("no room", x.count(9), 1);
        Check.due("the 61st not as told", x.find(0, 3, 0, 0), -1);
        Check.due("not as told", x.count(8), 8);
        Check.due("CELL", x.found(59, 0), 159);
        Check.due("HOW", x.found(58, 1), 1);
        Check.due("first AGE", x.found(58, 2), 58);
        Check.due("last AGE", x.found(58, 3), 97);
        Check.due("no such FIND", x.found(60, 0), -1);
        Check.due("no such FIND", x.found(-1, 0), -1);
        Check.due("what 4", x.found(0, 4), -1);
        Check.due("what -1", x.found(0, -1), -1);
        Check.due("how many", x.count(2), 60);
    }

    private static void imaging() {
        Land x = new Land();
        Check.due("no IMAGE yet", x.restore(0), false);
        Check.due("not as told", x.count(8), 1);
        x.sound(0, 3, 4);
        x.dry(5, true);
        x.bucket(6, 2);
        x.find(7, 1, 2, 3);
        x.mud(8, true);
        x.place(9);
        x.letter(true, 10, 11, 12);
        Check.due("the first", x.image(), 0);
        x.sound(0, 5, 6);
        x.sound(1, 5, 6);
        x.dry(5, true);
        x.bucket(6, 1);
        x.find(7, 2, 4, 5);
        x.mud(8, false);
        x.mud(9, false);
        x.place(10);
        x.letter(false, 99, 0, 0);
        Check.due("the second", x.image(), 1);
        Check.due("back to the first", x.restore(0), true);
        Check.due("low", x.cell(0, 0), 3);
        Check.due("high", x.cell(0, 1), 4);
        Check.due("low of 1", x.cell(1, 1), 99);
        Check.due("DRY", x.count(1), 1);
        Check.due("LEARNT", x.learnt(5, 1), 3);
        Check.due("LEARNT", x.learnt(5, 0), 2);
        Check.due("BUCKETS", x.cell(6, 8), 2);
        Check.due("BUCKETS in all", x.count(3), 2);
        Check.due("FINDS", x.count(2), 1);
        Check.due("MUD", x.cell(8, 10), 1);
        Check.due("MUD", x.cell(9, 10), -1);
        Check.due("CELLS with MUD", x.count(5), 1);
        Check.due("PLACES", x.count(4), 1);
        Check.due("PLACE", x.cell(10, 9), 0);
        Check.due("LETTERS", x.count(15), 1);
        Check.due("mud's LETTER is gone", x.levels(99, 0), 0);
        x.find(77, 0, 9, 9);
        Check.due("on to the second", x.restore(1), true);
        Check.due("FINDS", x.found(1, 0), 7);
        Check.due("FIND's HOW", x.found(1, 1), 2);
        Check.due("FIND's first AGE", x.found(1, 2), 4);
        Check.due("FIND's last AGE", x.found(1, 3), 5);
        Check.due("low", x.cell(1, 0), 5);
        Check.due("PLACE", x.cell(10, 9), 1);
        Check.due("mud's LETTER", x.levels(99, 0), 99);
        Check.due("the third", x.image(), 2);
        Check.due("a fourth", x.image(), -1);
        Check.due("no room", x.count(9), 1);
        Check.due("no IMAGE 3", x.restore(3), false);
        Check.due("no IMAGE -1", x.restore(-1), false);
        Check.due("not as told", x.count(8), 3);
        Check.due("IMAGES stay", x.count(7), 3);
        Check.due("the first again", x.restore(0), true);
        Check.due("as it was", x.cell(0, 0), 3);
        Check.due("IMAGES stay", x.count(7), 3);
    }

    /** The LAW, the tape, its FAULT and REFUSED aren't in an IMAGE; an IMAGE is no way into the object. */
    private static void keepingApart() {
        Land x = Check.under("catch 4;sea 10 20;");
        x.image();
        x.sound(300, 0, 0);
        Check.law(x, "catch 5;sea 10 30;live;");
        Check.law(x, "catch 6;sea 10 40;");
        Check.law(x, "sea");
        x.feed(1, 2, 3, 4, 5);
        x.sound(3, 50, 50);
        Check.due("restored", x.restore(0), true);
        Check.due("the LAW stays", x.count(11), 6);
        Check.due("the LAW stays", x.sea(10, 0), 40);
        Check.due("the tape stays", x.count(6), 20);
        Check.due("the FAULT stays", x.fault(), 3);
        Check.due("REFUSED stays", x.count(8), 1);
        Check.due("REFUSED stays", x.count(10), 2);
        Check.due("heights are back", x.cell(3, 1), 99);
        x.sound(3, 50, 50);
        x.bucket(3, 8);
        Check.due("restored again", x.restore(0), true);
        Check.due("heights are back again", x.cell(3, 1), 99);
        Check.due("BUCKETS too", x.cell(3, 8), 0);
    }

    private static void counting() {
        Land x = Check.under("catch 4;carry fished 10;carry cored 20;carry grabbed 30;carry cored 25;live 7;");
        Check.due("RULES", x.count(0), 6);
        Check.due("catch", x.count(11), 4);
        Check.due("fished", x.count(12), 10);
        Check.due("cored: the last one", x.count(13), 25);
        Check.due("grabbed", x.count(14), 30);
        x.bucket(0, 3);
        x.bucket(255, 4);
        Check.due("BUCKETS in all", x.count(3), 7);
        Check.due("what 16", x.count(16), -1);
        Check.due("what -1", x.count(-1), -1);
        Check.law(x, "catch 5; catch 6;");
        Check.due("catch: the last one", x.count(11), 6);
        Check.due("carry of a LAW without", x.count(13), 0);
        Check.due("asking is never REFUSED", x.asked(999, 0, 0) + x.say(999, 0) + x.gone(0, 0, 0, 0), -5);
        Check.due("REFUSED", x.count(8) + x.count(9) + x.count(10), 0);
    }
}
