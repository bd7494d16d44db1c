/** The edges of LETTERS, IMAGES, REFUSED and the counts: Terms 3, promises 34 to 36 and 39 to 41. */
final class EdgesOfLetters {
    private EdgesOfLetters() {
    }

    static void tryAll() {
        letters();
        lettersFull();
        levelsOfTrees();
        levelsOfMud();
        levelsOfBoth();
        levelsWrongly();
        fitsOfTrees();
        fitsOfMud();
        fits();
        images();
        imageHolds();
        imageHoldsRows();
        imageHoldsNot();
        imageOfAll();
        restoreWrongly();
        refused();
        counts();
        countsOfLaw();
    }

    private static void letters() {
        Edge.promise(34, "A LETTER: how many are told. NONE, doing nothing but REFUSED: not as told, 40 are.");
        for (boolean tree : new boolean[] {true, false}) {
            Land x = new Land();
            int[][] wrong = {{-1, 5, 6}, {100, 5, 6}, {50, -1, 6}, {50, 5, 100}, {50, 100, 100}, {50, -1, -1}, {50, 6, 5}, {50, 99, 0}};
            for (int i = 0; i < wrong.length; i++) {
                int[] w = wrong[i];
                Edge.due("letter(" + tree + ", " + w[0] + ", " + w[1] + ", " + w[2] + ")", x.letter(tree, w[0], w[1], w[2]), -1);
                Edge.due("REFUSED not as told", x.count(8), i + 1);
                Edge.due("LETTERS", x.count(15), 0);
            }
            int[][] good = {{0, 5, 6}, {1, 5, 6}, {99, 5, 6}, {98, 5, 6}, {50, 0, 0}, {50, 99, 99}, {50, 0, 99}, {50, 5, 5}, {50, 5, 6}};
            for (int i = 0; i < good.length; i++) {
                int[] g = good[i];
                Edge.due("letter(" + tree + ", " + g[0] + ", " + g[1] + ", " + g[2] + ")", x.letter(tree, g[0], g[1], g[2]), i + 1);
            }
            Edge.due("REFUSED for room", x.count(9), 0);
        }
    }

    private static void lettersFull() {
        Edge.terms(3, "LETTERS, up to 40: of a tree or of mud, at a height (0 to 99), of AGES from one to another.");
        Land x = new Land();
        for (int i = 1; i <= 39; i++) {
            Edge.due("the " + i + "th", x.letter(i % 2 == 0, i % 2 == 0 ? 99 : 0, i, i + 5), i);
        }
        Edge.due("the 40th", x.letter(false, 60, 50, 60), 40);
        Edge.due("the 41st", x.letter(false, 70, 50, 60), -1);
        Edge.due("the 41st of a tree", x.letter(true, 10, 99, 99), -1);
        Edge.due("REFUSED for room", x.count(9), 2);
        Edge.due("the 41st, not as told", x.letter(true, 100, 5, 5), -1);
        Edge.due("the 41st, not as told", x.letter(true, 10, 6, 5), -1);
        Edge.due("REFUSED for room", x.count(9), 2);
        Edge.due("REFUSED not as told", x.count(8), 2);
        Edge.due("LETTERS", x.count(15), 40);
        Edge.due("the 40th holds, the 41st doesn't", x.levels(99, 0), 60);
        Edge.due("the 41st of a tree doesn't", x.levels(99, 1), 99);
    }

    private static void levels(Land x, String with, int age, int least, int greatest) {
        Edge.due("levels(" + age + ", 0) " + with, x.levels(age, 0), least);
        Edge.due("levels(" + age + ", 1) " + with, x.levels(age, 1), greatest);
    }

    private static void levelsOfTrees() {
        Edge.terms(3, "As the sea rose: at an AGE it was below the height of each tree whose AGES begin with it or later");
        Land x = new Land();
        levels(x, "without LETTERS", 0, 0, 99);
        levels(x, "without LETTERS", 99, 0, 99);
        x.letter(true, 40, 30, 50);
        levels(x, "a tree of 40 from 30", 0, 0, 39);
        levels(x, "a tree of 40 from 30", 29, 0, 39);
        levels(x, "a tree of 40 from 30", 30, 0, 39);
        levels(x, "a tree of 40 from 30", 31, 0, 99);
        levels(x, "a tree of 40 up to 50", 50, 0, 99);
        levels(x, "a tree of 40 up to 50", 99, 0, 99);
        x.letter(true, 45, 40, 40);
        levels(x, "and one of 45 from 40", 30, 0, 39);
        levels(x, "and one of 45 from 40", 31, 0, 44);
        levels(x, "and one of 45 from 40", 40, 0, 44);
        levels(x, "and one of 45 from 40", 41, 0, 99);
        x.letter(true, 1, 10, 99);
        levels(x, "and one of 1 from 10", 10, 0, 0);
        levels(x, "and one of 1 from 10", 11, 0, 39);
        x.letter(true, 0, 5, 99);
        levels(x, "and one of 0 from 5", 5, -1, -1);
        levels(x, "and one of 0 from 5", 6, 0, 0);
        x = new Land();
        x.letter(true, 99, 99, 99);
        levels(x, "a tree of 99 from 99", 99, 0, 98);
        x = new Land();
        x.letter(true, 0, 0, 99);
        levels(x, "a tree of 0 from 0", 0, -1, -1);
        levels(x, "a tree of 0 from 0", 1, 0, 99);
    }

    private static void levelsOfMud() {
        Edge.terms(3, "and not below that of each mud whose AGES end with it or earlier: LEVELS 0 to 99 that can be.");
        Land x = new Land();
        x.letter(false, 40, 30, 50);
        levels(x, "mud of 40 from 30", 0, 0, 99);
        levels(x, "mud of 40 from 30", 30, 0, 99);
        levels(x, "mud of 40 up to 50", 49, 0, 99);
        levels(x, "mud of 40 up to 50", 50, 40, 99);
        levels(x, "mud of 40 up to 50", 51, 40, 99);
        levels(x, "mud of 40 up to 50", 99, 40, 99);
        x.letter(false, 35, 20, 45);
        levels(x, "and of 35 up to 45", 44, 0, 99);
        levels(x, "and of 35 up to 45", 45, 35, 99);
        levels(x, "and of 35 up to 45", 49, 35, 99);
        levels(x, "and of 35 up to 45", 50, 40, 99);
        x.letter(false, 99, 0, 99);
        levels(x, "and of 99 up to 99", 98, 40, 99);
        levels(x, "and of 99 up to 99", 99, 99, 99);
        x.letter(false, 0, 0, 0);
        levels(x, "and of 0 up to 0", 0, 0, 99);
    }

    private static void levelsOfBoth() {
        Edge.promise(35, "LEVELS at an AGE by LETTERS: the least (what 0), the greatest (1). NONE: none can be, none such.");
        for (int height = 39; height <= 42; height++) {
            Land x = new Land();
            x.letter(false, 40, 0, 50);
            x.letter(true, height, 50, 99);
            levels(x, "mud of 40, a tree of " + height, 50, height > 40 ? 40 : -1, height > 40 ? height - 1 : -1);
            levels(x, "a tree of " + height + " alone", 49, 0, height - 1);
            levels(x, "mud of 40 alone", 51, 40, 99);
        }
    }

    private static void levelsWrongly() {
        Edge.promise(35, "LEVELS at an AGE by LETTERS: the least (what 0), the greatest (1). NONE: none can be, none such.");
        Land x = new Land();
        levels(x, "none ahead of AGE 0", -1, -1, -1);
        levels(x, "of AGE 0", 0, 0, 99);
        levels(x, "of AGE 99", 99, 0, 99);
        levels(x, "none behind AGE 99", 100, -1, -1);
        Edge.due("levels(0, -1)", x.levels(0, -1), -1);
        Edge.due("levels(0, 2)", x.levels(0, 2), -1);
    }

    /** Whether one LETTER fits a LAW of SEA. */
    private static void fit(boolean tree, int height, int from, int to, boolean due) {
        Land x = Check.under("sea 10 20 to 30;sea 20 40 to 50;sea 30 0;");
        x.letter(tree, height, from, to);
        String letter = (tree ? "a tree" : "mud") + " of " + height + ", AGES " + from + " to " + to;
        Edge.due("fits(-1) of " + letter, x.fits(-1), due ? 1 : 0);
        Edge.due("fits(0) of " + letter, x.fits(0), due ? -1 : 0);
    }

    private static void fitsOfTrees() {
        Edge.terms(3, "FITS of the LAW: LETTERS of which at some AGE of theirs the lesser LEVEL of SEA is below the height (tree)");
        fit(true, 19, 10, 19, false);
        fit(true, 20, 10, 19, false);
        fit(true, 21, 10, 19, true);
        fit(true, 1, 9, 19, true);
        fit(true, 1, 10, 29, false);
        fit(true, 1, 10, 30, true);
        fit(true, 21, 19, 29, true);
        fit(true, 21, 20, 29, false);
        fit(true, 40, 20, 29, false);
        fit(true, 41, 20, 29, true);
        fit(true, 0, 0, 99, false);
        fit(true, 1, 99, 99, true);
        fit(true, 1, 0, 0, true);
    }

    private static void fitsOfMud() {
        Edge.terms(3, "the greater one not below it (mud).");
        fit(false, 29, 10, 19, true);
        fit(false, 30, 10, 19, true);
        fit(false, 31, 10, 19, false);
        fit(false, 31, 10, 20, true);
        fit(false, 50, 19, 20, true);
        fit(false, 51, 0, 99, false);
        fit(false, 31, 29, 99, true);
        fit(false, 31, 30, 99, false);
        fit(false, 1, 0, 9, false);
        fit(false, 1, 0, 10, true);
        fit(false, 0, 0, 0, true);
        fit(false, 0, 99, 99, true);
        fit(false, 99, 20, 20, false);
    }

    private static void fits() {
        Edge.promise(36, "FITS: how many LETTERS (k NONE), the first that doesn't (k 0; NONE: all do). NONE: none such.");
        Land x = new Land();
        Edge.due("fits(-1) without LETTERS", x.fits(-1), 0);
        Edge.due("fits(0) without LETTERS", x.fits(0), -1);
        x.letter(true, 1, 0, 0);
        Edge.due("fits(-1) of one that does", x.fits(-1), 1);
        Edge.due("fits(0) of one that does", x.fits(0), -1);
        x.letter(true, 0, 0, 0);
        x.letter(false, 0, 0, 0);
        x.letter(false, 1, 0, 0);
        Edge.due("fits(-1) of four", x.fits(-1), 2);
        Edge.due("fits(0) of four", x.fits(0), 1);
        for (int i = 0; i < 36; i++) {
            x.letter(true, 99, 0, 99);
        }
        Edge.due("fits(-1) of 40", x.fits(-1), 38);
        Edge.due("fits(-2)", x.fits(-2), -1);
        Edge.due("fits(1)", x.fits(1), -1);
        Edge.due("fits(the least)", x.fits(Integer.MIN_VALUE), -1);
        Edge.due("fits(the greatest)", x.fits(Integer.MAX_VALUE), -1);
        Check.law(x, "sea 0 99 to 99;");
        Edge.due("fits(-1) by another LAW: mud alone", x.fits(-1), 2);
        Edge.due("fits(0) by another LAW", x.fits(0), 0);
        x = new Land();
        for (int i = 0; i < 39; i++) {
            x.letter(true, 1, 0, 0);
        }
        x.letter(true, 0, 0, 0);
        Edge.due("the last of 40 doesn't", x.fits(0), 39);
    }

    private static void images() {
        Edge.promise(39, "An IMAGE: its number. NONE, doing nothing but REFUSED: 3 are there.");
        Land x = new Land();
        Edge.due("the first", x.image(), 0);
        Edge.due("the second", x.image(), 1);
        Edge.due("IMAGES", x.count(7), 2);
        Edge.due("the third", x.image(), 2);
        Edge.due("IMAGES", x.count(7), 3);
        Edge.due("a fourth", x.image(), -1);
        Edge.due("a fifth", x.image(), -1);
        Edge.due("IMAGES", x.count(7), 3);
        Edge.due("REFUSED for room", x.count(9), 2);
        Edge.due("REFUSED not as told", x.count(8), 0);
        Edge.due("a fourth didn't take the third's room", x.restore(2), true);
    }

    private static void imageHolds() {
        Edge.terms(3, "IMAGES, up to 3: all but the LAW, the tape, its FAULT, REFUSED.");
        Land x = new Land();
        x.image();
        for (int i = 1; i <= 2; i++) {
            x.sound(5, 10 * i, 20 * i);
            x.dry(i, i == 1);
            x.bucket(6, i);
            x.find(7, i, 8, 9);
            x.mud(8, i == 1);
            x.mud(20 + i, true);
            x.place(9 + i);
            x.letter(i == 1, 30 + 10 * i, 50, 50);
            x.image();
        }
        for (int image : new int[] {1, 2, 0, 2, 1, 0}) {
            Edge.due("restore(" + image + ")", x.restore(image), true);
            Edge.due("low", x.cell(5, 0), 10 * image);
            Edge.due("high", x.cell(5, 1), image == 0 ? 99 : 20 * image);
            Edge.due("DRY places", x.count(1), image);
            Edge.due("LEARNT of KIND 1", x.learnt(1, 0), image == 0 ? 1 : 2);
            Edge.due("LEARNT of KIND 2", x.learnt(2, 1), image == 2 ? 3 : 2);
            Edge.due("BUCKETS", x.cell(6, 8), image == 0 ? 0 : image == 1 ? 1 : 3);
            Edge.due("BUCKETS in all", x.count(3), image == 0 ? 0 : image == 1 ? 1 : 3);
            Edge.due("FINDS", x.count(2), image);
            Edge.due("the second FIND", x.found(1, 1), image == 2 ? 2 : -1);
            Edge.due("MUD", x.cell(8, 10), image == 0 ? -1 : image == 1 ? 1 : 0);
            Edge.due("CELLS with MUD", x.count(5), image == 0 ? 0 : image + 1);
            Edge.due("PLACES", x.count(4), image);
            Edge.due("PLACE", x.cell(11, 9), image == 2 ? 1 : 0);
            Edge.due("LETTERS", x.count(15), image);
            Edge.due("LEVELS", x.levels(50, 1), image == 0 ? 99 : image == 1 ? 39 : -1);
            Edge.due("LEVELS", x.levels(50, 0), image == 2 ? -1 : 0);
            Edge.due("IMAGES", x.count(7), 3);
            // what is told behind it is in no IMAGE
            x.sound(5, 77, 78);
            x.bucket(6, 5);
            x.mud(8, true);
            x.mud(99, false);
        }
    }

    /** What is told behind a restore() takes the place of what was told behind the IMAGE, and is gone again. */
    private static void imageHoldsRows() {
        Edge.terms(3, "IMAGES, up to 3: all but the LAW, the tape, its FAULT, REFUSED.");
        Land x = Check.under("catch 10;sea 0 20;");
        x.image();
        x.find(7, 1, 8, 9);
        x.find(17, 2, 18, 19);
        x.place(27);
        x.place(37);
        x.letter(true, 40, 50, 60);
        x.letter(false, 20, 30, 40);
        x.image();
        for (int i = 0; i < 2; i++) {
            Edge.due("restore(0)", x.restore(0), true);
            x.find(99, 0, 0, 0);
            x.find(98, 0, 1, 1);
            x.place(97);
            x.place(96);
            x.letter(false, 77, 1, 2);
            x.letter(true, 88, 3, 4);
            Edge.due("the FIND told behind it", x.found(0, 0), 99);
            Edge.due("the PLACE told behind it", x.cell(96, 9), 1);
            Edge.due("LETTERS told behind it, mud", x.levels(50, 0), 77);
            Edge.due("restore(1)", x.restore(1), true);
            int[] due = {7, 1, 8, 9, 17, 2, 18, 19};
            for (int k = 0; k < 8; k++) {
                Edge.due("found(" + k / 4 + ", " + k % 4 + ")", x.found(k / 4, k % 4), due[k]);
            }
            Edge.due("a PLACE", x.cell(27, 9), 1);
            Edge.due("a PLACE", x.cell(37, 9), 1);
            Edge.due("no PLACE", x.cell(97, 9), 0);
            Edge.due("no PLACE", x.cell(96, 9), 0);
            levels(x, "by a tree of 40 from 50, mud of 20 up to 40", 50, 20, 39);
            levels(x, "by a tree of 40 from 50, mud of 20 up to 40", 51, 20, 99);
            levels(x, "by a tree of 40 from 50, mud of 20 up to 40", 39, 0, 39);
            Edge.due("LETTERS that fit", x.fits(-1), 2);
        }
    }

    private static void imageHoldsNot() {
        Edge.terms(3, "IMAGES, up to 3: all but the LAW, the tape, its FAULT, REFUSED.");
        Land x = Check.under("catch 4;live 3;sea 50 20;");
        x.feed(0x20202020, 0x20202020, 0x20202020, 0x20202020, 0x20202020);
        x.image();
        Edge.due("no RULES told behind it", x.law(0), 0);
        Edge.due("a LAW told behind it", Check.law(x, "catch 5;"), 1);
        x.sound(3, 50, 50);
        Edge.due("restore(0)", x.restore(0), true);
        Edge.due("\"catch\" stays", x.count(11), 5);
        Edge.due("LIVE stays", x.asked(0, 0, 5), 0);
        Edge.due("SEA stays", x.sea(50, 0), 0);
        Edge.due("the tape stays empty", x.count(6), 0);
        Edge.due("a FAULT", Check.law(x, "catch;"), -1);
        x.feed(0x63617463, 0x68203720, 0x3b202020, 0x20202020, 0x20202020);
        x.sound(256, 0, 0);
        Edge.due("restore(0)", x.restore(0), true);
        Edge.due("the FAULT stays", x.fault(), 5);
        Edge.due("the tape stays", x.count(6), 20);
        Edge.due("REFUSED not as told stays", x.count(8), 1);
        Edge.due("REFUSED for a FAULT stays", x.count(10), 1);
        Edge.due("the tape's bytes stay", x.law(20), 1);
        Edge.due("\"catch\"", x.count(11), 7);
        Edge.due("restore(0)", x.restore(0), true);
        Edge.due("no FAULT stays so", x.fault(), -1);
        Edge.due("the last LAW holds", x.count(11), 7);
    }

    private static void imageOfAll() {
        Edge.promise(40, "All is as in an IMAGE: true; false, doing nothing but REFUSED: none such.");
        Land x = new Land();
        x.image();
        for (int i = 0; i < 80; i++) {
            x.dry(0, true);
        }
        for (int i = 0; i < 60; i++) {
            x.find(0, 0, 0, 0);
        }
        for (int i = 0; i < 40; i++) {
            x.mud(i, true);
            x.letter(true, 5, 5, 5);
        }
        for (int i = 0; i < 10; i++) {
            x.place(i);
        }
        x.bucket(0, 8);
        x.image();
        Edge.due("restore(0)", x.restore(0), true);
        Edge.due("room for a DRY place", x.dry(1, false), 1);
        Edge.due("room for a FIND", x.find(1, 1, 1, 1), 0);
        Edge.due("room for MUD", x.mud(41, true), 1);
        Edge.due("room for a LETTER", x.letter(false, 1, 1, 1), 1);
        Edge.due("room for a PLACE", x.place(9), 0);
        Edge.due("room for BUCKETS", x.bucket(0, 8), 8);
        Edge.due("restore(1)", x.restore(1), true);
        Edge.due("no room for a DRY place", x.dry(1, false), -1);
        Edge.due("no room for a FIND", x.find(1, 1, 1, 1), -1);
        Edge.due("no room for MUD", x.mud(41, true), -1);
        Edge.due("no room for a LETTER", x.letter(false, 1, 1, 1), -1);
        Edge.due("no room for a PLACE", x.place(10), -1);
        Edge.due("no room for BUCKETS", x.bucket(0, 1), -1);
        Edge.due("REFUSED for room", x.count(9), 6);
        Edge.due("LEARNT of KIND 0", x.learnt(0, 1), 82);
        Edge.due("LEARNT of KIND 1", x.learnt(1, 1), 2);
        Edge.due("the first FIND", x.found(0, 1), 0);
        Edge.due("MUD of 41", x.cell(41, 10), -1);
        Edge.due("the first PLACE by its ODDS", x.ship(1, 0, 10), 1);
    }

    private static void restoreWrongly() {
        Edge.promise(40, "All is as in an IMAGE: true; false, doing nothing but REFUSED: none such.");
        Land x = new Land();
        Edge.due("restore(0) without IMAGES", x.restore(0), false);
        Edge.due("restore(-1) without IMAGES", x.restore(-1), false);
        for (int images = 1; images <= 3; images++) {
            x.sound(0, images, images);
            x.image();
            x.sound(0, 50 + images, 60);
            int before = x.count(8);
            Edge.due("restore(-1)", x.restore(-1), false);
            Edge.due("restore(" + images + ") of " + images, x.restore(images), false);
            Edge.due("restore(" + (images + 1) + ") of " + images, x.restore(images + 1), false);
            Edge.due("REFUSED not as told", x.count(8), before + 3);
            Edge.due("low as it was", x.cell(0, 0), 50 + images);
            Edge.due("restore(" + (images - 1) + ") of " + images, x.restore(images - 1), true);
            Edge.due("low as in it", x.cell(0, 0), images);
            Edge.due("restore(0) of " + images, x.restore(0), true);
            Edge.due("low as in the first", x.cell(0, 0), 1);
        }
        Edge.due("REFUSED for room", x.count(9), 0);
        Edge.due("REFUSED for a FAULT", x.count(10), 0);
    }

    private static void refused() {
        Edge.terms(3, "REFUSED: calls that tell something and don't do it, by reason: 0 not as told, 1 no more room (if they are as told), 2 a FAULT.");
        Land x = new Land();
        for (int i = 0; i < 10; i++) {
            x.place(i);
        }
        x.place(3);
        Edge.due("a PLACE again where there is no room", 10 * x.count(8) + x.count(9), 10);
        x.place(10);
        Edge.due("a new one where there is no room", 10 * x.count(8) + x.count(9), 11);
        x.bucket(0, 8);
        x.bucket(0, 9);
        Edge.due("nine BUCKETS where there is no room", 10 * x.count(8) + x.count(9), 21);
        x.bucket(0, 8);
        Edge.due("eight BUCKETS where there is no room", 10 * x.count(8) + x.count(9), 22);
        Check.law(x, "foo;");
        Edge.due("a FAULT", 100 * x.count(10) + 10 * x.count(8) + x.count(9), 122);
        x.law(1);
        Edge.due("more bytes than there are", 100 * x.count(10) + 10 * x.count(8) + x.count(9), 132);
        x.law(0);
        x.bucket(1, 1);
        x.mud(0, true);
        x.mud(0, true);
        x.restore(x.image());
        Edge.due("what is done isn't REFUSED", 100 * x.count(10) + 10 * x.count(8) + x.count(9), 132);
        Land y = new Land();
        for (int i = 1; i <= 500; i++) {
            y.dry(16, true);
        }
        Edge.due("500 of them", y.count(8), 500);
    }

    private static void counts() {
        Edge.promise(41, "0 RULES, 1 DRY places, 2 FINDS, 3 BUCKETS in all, 4 PLACES, 5 CELLS with MUD, 6 bytes on the tape, 7 IMAGES, "
                + "8 to 10 REFUSED by reason, 11 \"catch\", 12 to 14 \"carry\" by HOW, 15 LETTERS.");
        Land x = Check.under("catch 9;carry fished 21;carry cored 22;carry grabbed 23;");
        times(x, 1, 5);
        times(x, 2, 6);
        times(x, 3, 7);
        times(x, 4, 8);
        times(x, 5, 9);
        times(x, 6, 3);
        times(x, 7, 2);
        times(x, 8, 10);
        times(x, 15, 11);
        int[] due = {4, 5, 6, 7, 8, 9, 60, 2, 10, 0, 0, 9, 21, 22, 23, 11};
        for (int what = 0; what <= 15; what++) {
            Edge.due("count(" + what + ")", x.count(what), due[what]);
        }
        Edge.promise(41, "NONE for others.");
        for (int what : new int[] {-1, -2, 16, 17, Integer.MIN_VALUE, Integer.MAX_VALUE}) {
            Edge.due("count(" + what + ")", x.count(what), -1);
        }
    }

    /** So many times what makes one more of what count() tells. */
    private static void times(Land x, int what, int n) {
        for (int i = 0; i < n; i++) {
            switch (what) {
                case 1 -> x.dry(i, true);
                case 2 -> x.find(i, 0, 0, 0);
                case 3 -> x.bucket(i, 1);
                case 4 -> x.place(i);
                case 5 -> x.mud(i, false);
                case 6 -> x.feed(0, 0, 0, 0, 0);
                case 7 -> x.image();
                case 8 -> x.sound(-1, 0, 0);
                default -> x.letter(false, 0, 0, 0);
            }
        }
    }

    private static void countsOfLaw() {
        Edge.promise(41, "0 RULES, 1 DRY places, 2 FINDS, 3 BUCKETS in all, 4 PLACES, 5 CELLS with MUD, 6 bytes on the tape, 7 IMAGES, "
                + "8 to 10 REFUSED by reason, 11 \"catch\", 12 to 14 \"carry\" by HOW, 15 LETTERS.");
        Land x = new Land();
        Check.law(x, "catch 1;".repeat(40));
        Edge.due("RULES", x.count(0), 40);
        Check.law(x, "catch 1;".repeat(41));
        Edge.due("RULES after a FAULT", x.count(0), 40);
        x.law(0);
        Edge.due("RULES of none", x.count(0), 0);
        x = new Land();
        for (int c = 0; c < 256; c++) {
            x.bucket(c, 8);
        }
        Edge.due("BUCKETS in all", x.count(3), 2048);
    }
}
