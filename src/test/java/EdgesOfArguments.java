import java.util.ArrayList;
import java.util.List;

/**
 * Each argument of each call: at its least and greatest and one step inside of them, where the call answers, and one
 * step outside and as far out as can be, where there is none such. The object is one of which every call that is as
 * told has an answer, and NaiveLand says which.
 */
final class EdgesOfArguments {
    private static final List<Call> TOLD = told();

    private EdgesOfArguments() {
    }

    static void tryAll() {
        heights();
        ground();
        people();
        finds();
        wave();
        places();
        fishers();
        letters();
        rest();
    }

    /** All is LAND but for CELL 77, LIVE and FISH are everywhere, and there are two of all that can be told. */
    static List<Call> told() {
        List<Call> all = new ArrayList<>(Call.law("sea 0 0 to 1;sea 50 3 to 5;live 2;fish 3;keep 60;catch 4;carry fished 30;carry cored 40;"
                + "carry grabbed 50;sink 1 if x=4;"));
        all.addAll(Call.law("catch 11;"));
        all.addAll(Call.feeds("catch 3;" + " ".repeat(30) + "\0"));
        all.add(Call.of("sound", 77, 0, 0));
        all.add(Call.of("sound", 100, 70, 80));
        all.add(Call.of("sound", 101, 5, 9));
        all.add(Call.of("dry", 0, true));
        all.add(Call.of("dry", 2, false));
        all.add(Call.of("bucket", 100, 3));
        all.add(Call.of("bucket", 9, 1));
        all.add(Call.of("find", 100, 0, 10, 20));
        all.add(Call.of("find", 9, 2, 50, 50));
        all.add(Call.of("mud", 100, false));
        all.add(Call.of("mud", 9, true));
        all.add(Call.of("place", 100));
        all.add(Call.of("place", 9));
        all.add(Call.of("letter", true, 50, 10, 20));
        all.add(Call.of("image"));
        all.add(Call.of("letter", false, 90, 30, 40));
        all.add(Call.of("dry", 8, true));
        all.add(Call.of("image"));
        all.add(Call.of("sound", 101, 6, 9));
        return all;
    }

    private static long after(Call call, Object land) {
        for (Call each : TOLD) {
            each.on(land);
        }
        return call.on(land);
    }

    /** An argument of a call that may be least to greatest; what the call answers if it's none such. */
    private static void argument(Call call, int place, int least, int greatest, int none) {
        for (int good : new int[] {least, least + 1, greatest - 1, greatest}) {
            if (good >= least && good <= greatest) {
                Call tried = call.with(place, good);
                long answer = after(tried, new Land());
                Edge.due(tried + " is answered", answer != none, true);
                Edge.due(tried + "", answer, after(tried, new NaiveLand()));
            }
        }
        for (int bad : new int[] {least - 1, greatest + 1, Integer.MIN_VALUE, Integer.MAX_VALUE}) {
            Call tried = call.with(place, bad);
            Edge.due(tried + "", after(tried, new Land()), none);
        }
    }

    private static void cell(Call call, int place, int none) {
        argument(call, place, 0, 255, none);
    }

    private static void age(Call call, int place, int none) {
        argument(call, place, 0, 99, none);
    }

    private static void what(Call call, int place, int greatest) {
        argument(call, place, 0, greatest, -1);
    }

    private static void heights() {
        Edge.promise(2, "A CELL is SOUNDED: true; false, doing nothing but REFUSED: not as told (high not below low).");
        cell(Call.of("sound", 5, 0, 99), 0, 0);
        argument(Call.of("sound", 5, 0, 99), 1, 0, 99, 0);
        argument(Call.of("sound", 5, 0, 99), 2, 0, 99, 0);
        argument(Call.of("sound", 5, 50, 60), 1, 0, 60, 0);
        argument(Call.of("sound", 5, 50, 60), 2, 50, 99, 0);
        Edge.promise(4, "-2, doing nothing but REFUSED: n is below 0 or more than there are.");
        argument(Call.of("law", 0), 0, 0, 40, -2);
    }

    private static void ground() {
        Edge.promise(6, "NONE: none such.");
        age(Call.of("sea", 0, 1), 0, -1);
        what(Call.of("sea", 50, 0), 1, 1);
        Edge.promise(7, "NONE: none such.");
        cell(Call.of("cell", 0, 1), 0, -1);
        what(Call.of("cell", 100, 0), 1, 10);
        Edge.promise(8, "NONE: none such.");
        cell(Call.of("asked", 0, 10, 1), 0, -1);
        age(Call.of("asked", 100, 0, 2), 1, -1);
        what(Call.of("asked", 100, 10, 0), 2, 8);
        Edge.promise(9, "SHORE. NONE: none such.");
        age(Call.of("shore", 0), 0, -1);
        Edge.promise(10, "NONE: none such.");
        cell(Call.of("alone", 0, 256, 0), 0, -1);
        argument(Call.of("alone", 100, 0, 0), 1, 1, 256, -1);
        what(Call.of("alone", 100, 256, 0), 2, 1);
        Edge.promise(32, "FORDS by a line (2 to 99): how many (k NONE), the k-th. NONE: none such.");
        age(Call.of("ford", 0, 2, -1), 0, -1);
        argument(Call.of("ford", 0, 2, -1), 1, 2, 99, -1);
        Edge.promise(33, "END of a CELL's water (what 0), how many CELLS have that END (1). NONE: none such.");
        cell(Call.of("ends", 0, 1), 0, -1);
        what(Call.of("ends", 100, 0), 1, 1);
    }

    private static void people() {
        Edge.promise(11, "NONE: none such, nobody LIVED at all.");
        cell(Call.of("lived", 0, 10, 20, 0), 0, -1);
        argument(Call.of("lived", 100, 0, 20, 1), 1, 0, 20, -1);
        argument(Call.of("lived", 100, 10, 0, 1), 2, 10, 99, -1);
        what(Call.of("lived", 100, 10, 20, 0), 3, 1);
        Edge.promise(12, "NONE, doing nothing but REFUSED: no such KIND, 80 are there.");
        argument(Call.of("dry", 0, true), 0, 0, 15, -1);
        Edge.promise(13, "NONE: none such.");
        argument(Call.of("learnt", 0, 0), 0, 0, 15, -1);
        what(Call.of("learnt", 0, 0), 1, 1);
        Edge.promise(14, "NONE: none such.");
        what(Call.of("tried", 0), 0, 1);
        Edge.promise(15, "NONE, doing nothing but REFUSED: no such CELL, n not 1 to 8, there would be more than 8 (no room).");
        cell(Call.of("bucket", 0, 1), 0, -1);
        argument(Call.of("bucket", 5, 1), 1, 1, 8, -1);
        argument(Call.of("bucket", 100, 1), 1, 1, 5, -1);
        Edge.promise(16, "NONE: none such.");
        cell(Call.of("left", 0, 10, 0), 0, -1);
        age(Call.of("left", 100, 0, 1), 1, -1);
        what(Call.of("left", 100, 10, 0), 2, 1);
    }

    private static void finds() {
        Edge.promise(17, "NONE, doing nothing but REFUSED: not as told, 60 are there.");
        cell(Call.of("find", 0, 1, 10, 20), 0, -1);
        argument(Call.of("find", 5, 0, 10, 20), 1, 0, 2, -1);
        argument(Call.of("find", 5, 1, 10, 20), 2, 0, 20, -1);
        argument(Call.of("find", 5, 1, 10, 20), 3, 10, 99, -1);
        Edge.promise(18, "NONE: none such.");
        argument(Call.of("found", 0, 0), 0, 0, 1, -1);
        what(Call.of("found", 1, 0), 1, 3);
        Edge.promise(19, "NONE: none such.");
        argument(Call.of("carried", 0, 1), 0, 0, 1, -1);
        what(Call.of("carried", 1, 0), 1, 1);
        Edge.promise(31, "SAY. -2: none such.");
        cell(Call.of("say", 0, 10), 0, -2);
        age(Call.of("say", 100, 0), 1, -2);
    }

    private static void wave() {
        Edge.promise(20, "-2: none such.");
        cell(Call.of("gone", 0, 10, 50, 1), 0, -2);
        age(Call.of("gone", 100, 0, 50, 1), 1, -2);
        argument(Call.of("gone", 100, 10, 1, 1), 2, 1, 99, -2);
        argument(Call.of("gone", 100, 10, 99, 0), 3, 0, 20, -2);
        Edge.promise(21, "NONE: none such.");
        age(Call.of("rest", 0, 50, 1, 0), 0, -1);
        argument(Call.of("rest", 10, 1, 1, 1), 1, 1, 99, -1);
        argument(Call.of("rest", 10, 60, 0, 2), 2, 0, 20, -1);
        what(Call.of("rest", 10, 60, 1, 0), 3, 2);
        Edge.promise(22, "NONE, doing nothing but REFUSED: no such CELL, 40 others have (no room).");
        cell(Call.of("mud", 0, true), 0, -1);
        Edge.promise(23, "NONE: none such; of what 0, 1: no height.");
        age(Call.of("height", 0, 0, 0), 0, -1);
        argument(Call.of("height", 10, 0, 2), 1, 0, 20, -1);
        what(Call.of("height", 10, 0, 0), 2, 2);
    }

    private static void places() {
        Edge.promise(24, "NONE, doing nothing but REFUSED: no such CELL, it is one, 10 are there (no room only if it is no PLACE yet).");
        cell(Call.of("place", 0), 0, -1);
        Edge.promise(25, "NONE: none such, no PLACES.");
        argument(Call.of("ship", 1, 10, 0), 0, 1, 6, -1);
        age(Call.of("ship", 2, 0, 0), 1, -1);
        argument(Call.of("ship", 2, 10, 10), 2, 10, 11, -1);
        argument(Call.of("ship", 2, 10, 0), 2, 0, 0, -1);
        Edge.promise(38, "DOUBT: its number. NONE: none such, no PLACES.");
        age(Call.of("doubt", 0), 0, -1);
    }

    private static void fishers() {
        Edge.promise(26, "LEAN. NONE: none such.");
        argument(Call.of("lean", 0, 10), 0, 0, 3, -1);
        age(Call.of("lean", 0, 0), 1, -1);
        Edge.promise(27, "NONE: none, none such.");
        argument(Call.of("right", 0, 10, 0), 0, 0, 3, -1);
        age(Call.of("right", 0, 0, 1), 1, -1);
        what(Call.of("right", 0, 10, 0), 2, 1);
        Edge.promise(28, "The k-th CELL AHEAD (0 on). NONE: none such.");
        age(Call.of("ahead", 0, 3), 0, -1);
        argument(Call.of("ahead", 10, 0), 1, 0, 255, -1);
        Edge.promise(29, "NONE: none such.");
        age(Call.of("held", 0, 101, 0), 0, -1);
        argument(Call.of("held", 10, 1, 0), 1, 1, 256, -1);
        what(Call.of("held", 10, 101, 0), 2, 1);
        Edge.promise(30, "NONE: none such, no LIVE at all.");
        argument(Call.of("world", 0, 10, 200, 100, 20), 0, 0, 999999999, -1);
        age(Call.of("world", 7, 0, 200, 100, 20), 1, -1);
        argument(Call.of("world", 7, 10, 1, 100, 20), 2, 1, 200, -1);
        cell(Call.of("world", 7, 10, 200, 0, 20), 3, -1);
        argument(Call.of("world", 7, 10, 200, 100, 0), 4, 0, 99, -1);
    }

    private static void letters() {
        Edge.promise(34, "NONE, doing nothing but REFUSED: not as told, 40 are.");
        for (boolean tree : new boolean[] {true, false}) {
            argument(Call.of("letter", tree, 0, 10, 20), 1, 0, 99, -1);
            argument(Call.of("letter", tree, 50, 0, 20), 2, 0, 20, -1);
            argument(Call.of("letter", tree, 50, 10, 0), 3, 10, 99, -1);
        }
        Edge.promise(35, "NONE: none can be, none such.");
        Land x = new Land();
        Edge.due("mud of 90 up to 40, a tree of 50 from 10: levels(10, 1)", after(Call.of("levels", 10, 1), x), 49);
        Edge.due("levels(40, 0)", x.levels(40, 0), 90);
        age(Call.of("levels", 0, 0), 0, -1);
        what(Call.of("levels", 10, 0), 1, 1);
        Edge.promise(36, "NONE: none such.");
        argument(Call.of("fits", 0), 0, -1, 0, -1);
    }

    private static void rest() {
        Edge.promise(37, "UNLIKE. NONE: none such, no LAND, no DRY places.");
        age(Call.of("unlike", 0), 0, -1);
        Edge.promise(40, "false, doing nothing but REFUSED: none such.");
        argument(Call.of("restore", 0), 0, 0, 1, 0);
        Edge.promise(41, "NONE for others.");
        what(Call.of("count", 0), 0, 15);
    }
}
