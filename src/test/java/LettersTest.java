/** Promises 34 (letter), 35 (levels), 36 (fits). */
public final class LettersTest {
    private LettersTest() {
    }

    public static void main(String[] args) {
        telling();
        bounding();
        fitting();
        Check.end("LettersTest");
    }

    private static void telling() {
        Land x = new Land();
        Check.due("height -1", x.letter(true, -1, 0, 0), -1);
        Check.due("height 100", x.letter(true, 100, 0, 0), -1);
        Check.due("from behind to", x.letter(true, 5, 7, 6), -1);
        Check.due("AGE -1", x.letter(true, 5, -1, 6), -1);
        Check.due("AGE 100", x.letter(true, 5, 7, 100), -1);
        Check.due("not as told", x.count(8), 5);
        for (int i = 1; i <= 40; i++) {
            Check.due("letter", x.letter(i % 2 == 0, 99, 0, 99), i);
        }
        Check.due("the 41st", x.letter(true, 0, 0, 0), -1);
        Check.due("no room", x.count(9), 1);
        Check.due("the 41st not as told", x.letter(true, 0, 1, 0), -1);
        Check.due("not as told", x.count(8), 6);
        Check.due("how many", x.count(15), 40);
    }

    private static void bounding() {
        Land x = new Land();
        Check.due("without LETTERS", x.levels(0, 0), 0);
        Check.due("without LETTERS", x.levels(99, 1), 99);
        x.letter(true, 40, 30, 50);
        Check.due("below a tree that begins then", x.levels(30, 1), 39);
        Check.due("or later", x.levels(0, 1), 39);
        Check.due("not behind its beginning", x.levels(31, 1), 99);
        x.letter(false, 20, 10, 25);
        Check.due("not below mud that ended then", x.levels(25, 0), 20);
        Check.due("or earlier", x.levels(99, 0), 20);
        Check.due("not ahead of its end", x.levels(24, 0), 0);
        x.letter(true, 20, 26, 26);
        Check.due("AGE 25: 20 and below 20", x.levels(25, 0), -1);
        Check.due("AGE 25: none can be", x.levels(25, 1), -1);
        Check.due("AGE 26 too", x.levels(26, 1), -1);
        Check.due("AGE 27 again", x.levels(27, 1), 39);
        Check.due("AGE 24 yet", x.levels(24, 1), 19);
        x.letter(true, 0, 99, 99);
        Check.due("below 0", x.levels(99, 1), -1);
        Check.due("AGE 100", x.levels(100, 0), -1);
        Check.due("AGE -1", x.levels(-1, 0), -1);
        Check.due("what 2", x.levels(0, 2), -1);
        Check.due("what -1", x.levels(0, -1), -1);
    }

    private static void fitting() {
        Land x = Check.under("sea 0 10 to 20;sea 50 30 to 40;");
        Check.due("none told", x.fits(-1), 0);
        Check.due("none told", x.fits(0), -1);
        x.letter(true, 11, 0, 10);
        Check.due("a tree above the lesser LEVEL", x.fits(-1), 1);
        x.letter(false, 20, 0, 10);
        Check.due("mud as high as the greater", x.fits(-1), 2);
        Check.due("all do", x.fits(0), -1);
        x.letter(false, 21, 0, 49);
        Check.due("mud above it", x.fits(-1), 2);
        Check.due("the first that doesn't", x.fits(0), 2);
        x.letter(false, 21, 0, 50);
        Check.due("at some AGE of its own", x.fits(-1), 3);
        x.letter(true, 10, 0, 99);
        Check.due("a tree as high as the lesser", x.fits(-1), 3);
        x.letter(true, 11, 40, 60);
        Check.due("at its first AGES", x.fits(-1), 4);
        Check.due("the first stays", x.fits(0), 2);
        Check.law(x, "");
        Check.due("by another LAW: trees fit, mud doesn't", x.fits(-1), 3);
        Check.due("the first that doesn't", x.fits(0), 1);
        Check.due("k 1", x.fits(1), -1);
        Check.due("k -2", x.fits(-2), -1);
    }
}
