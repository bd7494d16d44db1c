import java.util.Arrays;

/**
 * A land that went under the sea. What was told (heights, DRY places, BUCKETS,
 * FINDS, MUD, PLACES, LETTERS) stands in Told, the LAW in Law; all else is
 * worked out of these two when it is asked for.
 *
 * Every public method that needs the ground or a view of an AGE calls settle()
 * or viewAt() itself, so that the helpers below never have to.
 */
public final class DrownedLand {
    public static final int NONE = -1;

    private static final int NONE_SUCH = -2;
    private static final int SIDE = 16;
    private static final int CELLS = 256;
    private static final int AGES = 100;
    private static final int TOP = 99;
    private static final int FAR = 99;
    private static final int KINDS = 16;
    private static final int HOWS = 3;
    private static final int FISHED = 0;
    private static final int MOST_DRY = 80;
    private static final int MOST_BUCKETS = 8;
    private static final int MOST_FINDS = 60;
    private static final int MOST_MUD = 40;
    private static final int MOST_PLACES = 10;
    private static final int MOST_LETTERS = 40;
    private static final int MOST_IMAGES = 3;
    private static final int MOST_LAID = 6;
    private static final int MOST_DROP = 20;
    private static final int MOST_SEED = 999999999;
    private static final int MOST_CAMPS = 200;
    private static final int MOST_WORLD_BUCKETS = 99;
    private static final int MOST_RULES = 40;
    private static final int MOST_OPEN = 9;
    private static final int TAPE = 700;
    private static final int FEED = 20;
    private static final long MILLION = 1000000L;

    private static final int NOT_AS_TOLD = 0;
    private static final int NO_ROOM = 1;
    private static final int FAULTY = 2;

    private static final int SEA = 0;
    private static final int SINK = 1;
    private static final int LIVE = 2;
    private static final int FISH = 3;
    private static final int KEEP = 4;
    private static final int CARRY = 5;
    private static final int CATCH = 6;

    private static final int WORD_X = 0;
    private static final int WORD_Y = 1;
    private static final int WORD_AGE = 2;
    private static final int WORD_HEIGHT = 3;
    private static final int WORD_RIVER = 4;
    private static final int WORD_COAST = 5;
    private static final int WORD_WIND = 6;
    /** One more than there are, so that the three bits of a step are always a place in the row. */
    private static final int WORDS = 8;

    private final Reader reader = new Reader();
    private final Told told = new Told();
    private final Told[] images = new Told[MOST_IMAGES];
    private final View view = new View();
    private final Ground ground = view.ground;
    private final Lives lives = new Lives();
    private final Flood flood = new Flood();
    private final Ways ways = new Ways();
    private final Ratio ratio = new Ratio();
    private final int[] refused = new int[3];
    private Law ruling = new Law();
    private Law draft = new Law();
    private int faultPlace = NONE;
    private int imageCount = 0;
    private boolean stale = true;

    public DrownedLand() {
        // all that is new stands in the fields' own beginnings
    }

    // ---- what is told ----

    public boolean sound(int cell, int low, int high) {
        if (!isCell(cell) || !isHeight(low) || !isHeight(high) || high < low) {
            refuse(NOT_AS_TOLD);
            return false;
        }
        told.low[cell] = low;
        told.high[cell] = high;
        forgetGround();
        return true;
    }

    public int feed(int a, int b, int c, int d, int e) {
        if (reader.length + FEED > TAPE) {
            return NONE;
        }
        reader.put(a);
        reader.put(b);
        reader.put(c);
        reader.put(d);
        reader.put(e);
        return reader.length;
    }

    public int law(int n) {
        if (n < 0 || n > reader.length) {
            refuse(NOT_AS_TOLD);
            return NONE_SUCH;
        }
        faultPlace = reader.read(n, draft);
        reader.length = 0;
        if (faultPlace != NONE) {
            refuse(FAULTY);
            return NONE;
        }
        Law last = ruling;
        ruling = draft;
        draft = last;
        forgetGround();
        return ruling.rules;
    }

    public int fault() {
        return faultPlace;
    }

    public int dry(int kind, boolean camp) {
        if (!isKind(kind)) {
            return refuse(NOT_AS_TOLD);
        }
        if (told.dryCount >= MOST_DRY) {
            return refuse(NO_ROOM);
        }
        told.dry[kind]++;
        if (camp) {
            told.camps[kind]++;
        }
        told.dryCount++;
        ways.forget();
        return told.dryCount;
    }

    public int bucket(int cell, int n) {
        if (!isCell(cell) || n < 1 || n > MOST_BUCKETS) {
            return refuse(NOT_AS_TOLD);
        }
        if (told.buckets[cell] + n > MOST_BUCKETS) {
            return refuse(NO_ROOM);
        }
        told.buckets[cell] += n;
        ways.forget();
        return told.buckets[cell];
    }

    public int find(int cell, int how, int from, int to) {
        if (!isCell(cell) || how < 0 || how >= HOWS || !areAges(from, to)) {
            return refuse(NOT_AS_TOLD);
        }
        if (told.findCount >= MOST_FINDS) {
            return refuse(NO_ROOM);
        }
        int number = told.findCount;
        told.findCell[number] = cell;
        told.findHow[number] = how;
        told.findFrom[number] = from;
        told.findTo[number] = to;
        told.findCount++;
        return number;
    }

    public int mud(int cell, boolean wet) {
        if (!isCell(cell)) {
            return refuse(NOT_AS_TOLD);
        }
        if (told.mud[cell] == NONE) {
            if (told.mudCount >= MOST_MUD) {
                return refuse(NO_ROOM);
            }
            told.mudCount++;
        }
        told.mud[cell] = wet ? 1 : 0;
        return told.mudCount;
    }

    public int place(int cell) {
        if (!isCell(cell) || told.isPlace(cell)) {
            return refuse(NOT_AS_TOLD);
        }
        if (told.placeCount >= MOST_PLACES) {
            return refuse(NO_ROOM);
        }
        int number = told.placeCount;
        told.places[number] = cell;
        told.placeCount++;
        ways.forget();
        return number;
    }

    public int letter(boolean tree, int height, int from, int to) {
        if (!isHeight(height) || !areAges(from, to)) {
            return refuse(NOT_AS_TOLD);
        }
        if (told.letterCount >= MOST_LETTERS) {
            return refuse(NO_ROOM);
        }
        int number = told.letterCount;
        told.letterTree[number] = tree ? 1 : 0;
        told.letterHeight[number] = height;
        told.letterFrom[number] = from;
        told.letterTo[number] = to;
        told.letterCount++;
        return told.letterCount;
    }

    public int image() {
        if (imageCount >= MOST_IMAGES) {
            return refuse(NO_ROOM);
        }
        int number = imageCount;
        Told copy = new Told();
        copy.take(told);
        images[number] = copy;
        imageCount++;
        return number;
    }

    public boolean restore(int image) {
        if (image < 0 || image >= imageCount || image >= MOST_IMAGES || images[image] == null) {
            refuse(NOT_AS_TOLD);
            return false;
        }
        told.take(images[image]);
        forgetGround();
        return true;
    }

    // ---- the sea, the cells and the ages ----

    public int sea(int age, int what) {
        if (!isAge(age) || !isPart(what)) {
            return NONE;
        }
        return what == 0 ? ruling.seaLow[age] : ruling.seaHigh[age];
    }

    public int cell(int cell, int what) {
        if (!isCell(cell)) {
            return NONE;
        }
        switch (what) {
            case 8:
                return told.buckets[cell];
            case 9:
                return told.isPlace(cell) ? 1 : 0;
            case 10:
                return told.mud[cell];
            default:
                return groundOf(cell, what);
        }
    }

    private int groundOf(int cell, int what) {
        settle();
        switch (what) {
            case 0:
                return ground.low[cell];
            case 1:
                return ground.high[cell];
            case 2:
                return ground.sunk[cell];
            case 3:
                return ground.flow[cell];
            case 4:
                return ground.river[cell];
            case 5:
                return ground.isSure(cell) ? 1 : 0;
            case 6:
                return ruling.firstAgeAt(ruling.seaHigh, ground.low[cell]);
            case 7:
                return ruling.firstAgeAt(ruling.seaLow, ground.high[cell]);
            default:
                return NONE;
        }
    }

    public int asked(int cell, int age, int what) {
        if (!isCell(cell) || !isAge(age)) {
            return NONE;
        }
        View at = viewAt(age);
        switch (what) {
            case 0:
                return at.land[cell] ? 1 : 0;
            case 1:
                return at.heightOf(cell);
            case 2:
                return at.coast[cell];
            case 3:
                return ground.wind[cell];
            case 4:
                return islandOf(cell, ruling.bothLevels(age));
            case 5:
                return at.land[cell] ? ruling.first(LIVE, at.wordsOf(cell, age), 0) : 0;
            case 6:
                return ruling.first(FISH, at.wordsOf(cell, age), 0);
            case 7:
                return ruling.first(KEEP, at.wordsOf(cell, age), 100);
            case 8:
                return at.kindOf(cell);
            default:
                return NONE;
        }
    }

    public int shore(int age) {
        if (!isAge(age)) {
            return NONE;
        }
        View at = viewAt(age);
        int couples = 0;
        for (int c = 0; c < CELLS; c++) {
            int east = beside(c, 2);
            int south = beside(c, 3);
            if (east != NONE && at.land[c] != at.land[east]) {
                couples++;
            }
            if (south != NONE && at.land[c] != at.land[south]) {
                couples++;
            }
        }
        return couples;
    }

    public int alone(int cell, int most, int what) {
        if (!isCell(cell) || most < 1 || most > CELLS || !isPart(what)) {
            return NONE;
        }
        settle();
        int longest = 0;
        int start = NONE;
        int row = 0;
        int island = 0;
        for (int age = 0; age < AGES; age++) {
            int level = ruling.bothLevels(age);
            if (age == 0 || level != ruling.bothLevels(age - 1)) {
                island = islandOf(cell, level);
            }
            row = island >= 1 && island <= most ? row + 1 : 0;
            if (row > longest) {
                longest = row;
                start = age - row + 1;
            }
        }
        return what == 0 ? longest : start;
    }

    public int ends(int cell, int what) {
        if (!isCell(cell) || !isPart(what)) {
            return NONE;
        }
        settle();
        int end = ground.end[cell];
        if (what == 0) {
            return end;
        }
        int same = 0;
        for (int c = 0; c < CELLS; c++) {
            if (ground.end[c] == end) {
                same++;
            }
        }
        return same;
    }

    public int ford(int age, int line, int k) {
        if (!isAge(age) || line < 2 || line > FAR || k < NONE) {
            return NONE;
        }
        View at = viewAt(age);
        int fords = 0;
        for (int c = 0; c < CELLS; c++) {
            if (at.isFord(c, line)) {
                if (fords == k) {
                    return c;
                }
                fords++;
            }
        }
        return k == NONE ? fords : NONE;
    }

    // ---- where people lived ----

    public long lived(int cell, int from, int to, int what) {
        if (!isCell(cell) || !areAges(from, to) || !isPart(what)) {
            return NONE;
        }
        settle();
        long all = sumLives(from, to);
        if (all == 0) {
            return NONE;
        }
        ratio.put(sumLivesIn(cell, from, to), all);
        return ratio.part(what);
    }

    public int learnt(int kind, int what) {
        if (!isKind(kind) || !isPart(what)) {
            return NONE;
        }
        return what == 0 ? told.camps[kind] + 1 : told.dry[kind] + 2;
    }

    public int tried(int what) {
        if (!isPart(what)) {
            return NONE;
        }
        int off = 0;
        int camps = 0;
        for (int kind = 0; kind < KINDS; kind++) {
            off += offTogether(told.camps[kind], told.dry[kind]);
            camps += told.camps[kind];
        }
        return what == 0 ? off : offTogether(camps, told.dryCount);
    }

    /** Places told apart by CAMP alone are off alike, so two kinds of place are reckoned. */
    private static int offTogether(int camps, int all) {
        if (all < 1) {
            return 0;
        }
        int withCamp = 1000 - 1000 * camps / (all + 1);
        int without = 1000 * (camps + 1) / (all + 1);
        return camps * withCamp + (all - camps) * without;
    }

    public long left(int cell, int age, int what) {
        if (!isCell(cell) || !isAge(age) || !isPart(what)) {
            return NONE;
        }
        reckonLeft(cell, viewAt(age));
        return ratio.part(what);
    }

    public int lean(int quarter, int age) {
        if (quarter < 0 || quarter > 3 || !isAge(age)) {
            return NONE;
        }
        return sumFish(quarter, age, viewAt(age));
    }

    public long right(int quarter, int age, int what) {
        if (quarter < 0 || quarter > 3 || !isAge(age) || !isPart(what)) {
            return NONE;
        }
        View at = viewAt(age);
        long leanHere = sumFish(quarter, age, at);
        long leanAll = 0;
        for (int q = 0; q < 4; q++) {
            leanAll += q == quarter ? leanHere : sumFish(q, age, at);
        }
        long here = 0;
        long all = 0;
        for (int f = 0; f < told.findCount; f++) {
            if (told.findHow[f] == FISHED) {
                all++;
                here += quarterOf(told.findCell[f]) == quarter ? 1 : 0;
            }
        }
        if (leanHere == 0 || all == 0) {
            return NONE;
        }
        ratio.put(here * leanAll, leanHere * all);
        return ratio.part(what);
    }

    public int ahead(int age, int k) {
        if (!isAge(age) || k < 0 || k >= CELLS) {
            return NONE;
        }
        settle();
        return lives.ranked(spanKnown(age), k);
    }

    public int held(int age, int k, int what) {
        if (!isAge(age) || k < 1 || k > CELLS || !isPart(what)) {
            return NONE;
        }
        if (what == 1) {
            return told.findCount;
        }
        settle();
        int span = spanKnown(age);
        int last = lives.ranked(span, k - 1);
        int held = 0;
        for (int f = 0; f < told.findCount; f++) {
            if (lives.isNotBehind(span, told.findCell[f], last)) {
                held++;
            }
        }
        return held;
    }

    public int unlike(int age) {
        if (!isAge(age) || told.dryCount == 0) {
            return NONE;
        }
        int[] land = viewAt(age).countKinds();
        int all = 0;
        for (int kind = 0; kind < KINDS; kind++) {
            all += land[kind];
        }
        if (all == 0) {
            return NONE;
        }
        int apart = 0;
        for (int kind = 0; kind < KINDS; kind++) {
            int wet = 1000 * land[kind] / all;
            int dry = 1000 * told.dry[kind] / told.dryCount;
            apart += Math.abs(wet - dry);
        }
        return apart;
    }

    public int world(int seed, int age, int camps, int cell, int buckets) {
        if (seed < 0 || seed > MOST_SEED || !isAge(age) || camps < 1 || camps > MOST_CAMPS) {
            return NONE;
        }
        if (!isCell(cell) || buckets < 0 || buckets > MOST_WORLD_BUCKETS) {
            return NONE;
        }
        View at = viewAt(age);
        int span = spanKnown(age);
        int all = lives.total[span];
        if (all == 0) {
            return NONE;
        }
        int before = lives.before(span, cell);
        int behind = before + lives.of(span, cell);
        int keep = ruling.first(KEEP, at.wordsOf(cell, age), 100);
        Draw draw = new Draw(seed);
        boolean kept = false;
        for (int i = 0; i < camps; i++) {
            // only a CAMP in the told CELL can turn a BUCKET there into a hit
            int drawn = draw.next(all);
            boolean there = drawn >= before && drawn < behind;
            boolean stays = draw.next(100) < keep;
            kept = kept || there && stays;
        }
        int hits = 0;
        for (int i = 0; i < buckets; i++) {
            if (draw.next(10) < ruling.catching && kept) {
                hits++;
            }
        }
        return hits;
    }

    // ---- finds ----

    public int found(int find, int what) {
        if (find < 0 || find >= told.findCount || find >= MOST_FINDS) {
            return NONE;
        }
        switch (what) {
            case 0:
                return told.findCell[find];
            case 1:
                return told.findHow[find];
            case 2:
                return told.findFrom[find];
            case 3:
                return told.findTo[find];
            default:
                return NONE;
        }
    }

    public long carried(int find, int what) {
        if (find < 0 || find >= told.findCount || find >= MOST_FINDS || !isPart(what)) {
            return NONE;
        }
        settle();
        int from = told.findFrom[find];
        int to = told.findTo[find];
        long carry = ruling.carrying[told.findHow[find]];
        long far = carry * sumLives(from, to);
        long near = (100 - carry) * CELLS * sumLivesIn(told.findCell[find], from, to);
        if (far + near == 0) {
            ratio.put(0, 1);
        } else {
            ratio.put(far, far + near);
        }
        return ratio.part(what);
    }

    public int say(int cell, int age) {
        if (!isCell(cell) || !isAge(age)) {
            return NONE_SUCH;
        }
        View at = viewAt(age);
        if (!at.land[cell]) {
            return NONE;
        }
        int surest = surestFind(cell, age);
        if (surest != 0) {
            return surest;
        }
        reckonLeft(cell, at);
        return 2 * ratio.upper >= ratio.lower ? 1 : 0;
    }

    private int surestFind(int cell, int age) {
        int surest = 0;
        for (int f = 0; f < told.findCount; f++) {
            if (told.findCell[f] == cell && told.findFrom[f] <= age && age <= told.findTo[f]) {
                surest = Math.max(surest, told.findHow[f] == FISHED ? 2 : 3);
            }
        }
        return surest;
    }

    // ---- the wave ----

    public int gone(int cell, int age, int high, int drop) {
        if (!isCell(cell) || !isAge(age) || !isWave(high, drop)) {
            return NONE_SUCH;
        }
        View at = viewAt(age);
        if (!at.land[cell]) {
            return NONE;
        }
        return at.standsTo(cell, drop) < high ? 1 : 0;
    }

    public int rest(int age, int high, int drop, int what) {
        if (!isAge(age) || !isWave(high, drop) || what < 0 || what > 2) {
            return NONE;
        }
        View at = viewAt(age);
        int stay = 0;
        int go = 0;
        for (int c = 0; c < CELLS; c++) {
            boolean stays = at.land[c] && at.standsTo(c, drop) >= high;
            flood.open[c] = stays;
            stay += stays ? 1 : 0;
            go += at.land[c] && !stays ? 1 : 0;
        }
        if (what == 1) {
            return flood.countParts();
        }
        return what == 0 ? stay : go;
    }

    public int height(int age, int drop, int what) {
        if (!isAge(age) || drop < 0 || drop > MOST_DROP || what < 0 || what > 2) {
            return NONE;
        }
        View at = viewAt(age);
        int least = 1;
        int greatest = TOP;
        for (int c = 0; c < CELLS; c++) {
            if (told.mud[c] != NONE && at.land[c]) {
                int stands = at.standsTo(c, drop);
                if (told.mud[c] == 1) {
                    least = Math.max(least, stands + 1);
                } else {
                    greatest = Math.min(greatest, stands);
                }
            }
        }
        if (what == 2) {
            return Math.max(0, greatest - least + 1);
        }
        if (least > greatest) {
            return NONE;
        }
        return what == 0 ? least : greatest;
    }

    // ---- where to lay buckets ----

    public int ship(int n, int age, int what) {
        if (n < 1 || n > MOST_LAID || !isAge(age) || told.placeCount == 0) {
            return NONE;
        }
        int p = what - 10;
        if (what != 0 && (what < 10 || p >= told.placeCount)) {
            return NONE;
        }
        if (!ways.isOf(n, age)) {
            layOut(viewAt(age));
            ways.choose(n, age, told.placeCount);
        }
        return what == 0 ? (int) (MILLION - ways.least) : ways.best[p];
    }

    private void layOut(View at) {
        for (int p = 0; p < told.placeCount; p++) {
            reckonLeft(told.places[p], at);
            ways.weigh(p, ratio.cutTo(MILLION), ruling.catching);
        }
    }

    public int doubt(int age) {
        if (!isAge(age) || told.placeCount == 0) {
            return NONE;
        }
        View at = viewAt(age);
        int nearest = 0;
        long off = 0;
        long of = 1;
        for (int p = 0; p < told.placeCount; p++) {
            reckonLeft(told.places[p], at);
            long offHere = Math.abs(2 * ratio.upper - ratio.lower);
            if (p == 0 || Ratio.compare(offHere, ratio.lower, off, of) < 0) {
                nearest = p;
                off = offHere;
                of = ratio.lower;
            }
        }
        return nearest;
    }

    // ---- letters ----

    public int levels(int age, int what) {
        if (!isAge(age) || !isPart(what)) {
            return NONE;
        }
        int least = 0;
        int greatest = TOP;
        for (int i = 0; i < told.letterCount; i++) {
            boolean tree = told.letterTree[i] == 1;
            if (tree && told.letterFrom[i] >= age) {
                greatest = Math.min(greatest, told.letterHeight[i] - 1);
            }
            if (!tree && told.letterTo[i] <= age) {
                least = Math.max(least, told.letterHeight[i]);
            }
        }
        if (least > greatest) {
            return NONE;
        }
        return what == 0 ? least : greatest;
    }

    public int fits(int k) {
        if (k != NONE && k != 0) {
            return NONE;
        }
        int fit = 0;
        for (int i = 0; i < told.letterCount; i++) {
            if (letterFits(i)) {
                fit++;
            } else if (k == 0) {
                return i;
            }
        }
        return k == NONE ? fit : NONE;
    }

    private boolean letterFits(int i) {
        int height = told.letterHeight[i];
        boolean tree = told.letterTree[i] == 1;
        for (int age = told.letterFrom[i]; age <= told.letterTo[i]; age++) {
            boolean well = tree ? ruling.seaLow[age] < height : ruling.seaHigh[age] >= height;
            if (well) {
                return true;
            }
        }
        return false;
    }

    public int count(int what) {
        switch (what) {
            case 0:
                return ruling.rules;
            case 1:
                return told.dryCount;
            case 2:
                return told.findCount;
            case 3:
                return told.countBuckets();
            case 4:
                return told.placeCount;
            case 5:
                return told.mudCount;
            case 6:
                return reader.length;
            case 7:
                return imageCount;
            case 8:
            case 9:
            case 10:
                return refused[what - 8];
            case 11:
                return ruling.catching;
            case 12:
            case 13:
            case 14:
                return ruling.carrying[what - 12];
            case 15:
                return told.letterCount;
            default:
                return NONE;
        }
    }

    // ---- helpers of the face ----

    private static boolean isCell(int cell) {
        return cell >= 0 && cell < CELLS;
    }

    private static boolean isAge(int age) {
        return age >= 0 && age < AGES;
    }

    private static boolean areAges(int from, int to) {
        return isAge(from) && isAge(to) && from <= to;
    }

    private static boolean isHeight(int height) {
        return height >= 0 && height <= TOP;
    }

    private static boolean isKind(int kind) {
        return kind >= 0 && kind < KINDS;
    }

    private static boolean isPart(int what) {
        return what == 0 || what == 1;
    }

    private static boolean isWave(int high, int drop) {
        return high >= 1 && high <= TOP && drop >= 0 && drop <= MOST_DROP;
    }

    private static int quarterOf(int cell) {
        return (cell % SIDE > 7 ? 1 : 0) + (cell / SIDE > 7 ? 2 : 0);
    }

    /** The CELL to the north (0), west (1), east (2), south (3): so the numbers rise with the sides. */
    private static int beside(int cell, int side) {
        int x = cell % SIDE;
        switch (side) {
            case 0:
                return cell >= SIDE ? cell - SIDE : NONE;
            case 1:
                return x > 0 ? cell - 1 : NONE;
            case 2:
                return x < SIDE - 1 ? cell + 1 : NONE;
            case 3:
                return cell < CELLS - SIDE ? cell + SIDE : NONE;
            default:
                return NONE;
        }
    }

    private int refuse(int reason) {
        refused[reason]++;
        return NONE;
    }

    private void forgetGround() {
        stale = true;
        ways.forget();
    }

    private void settle() {
        if (stale) {
            ground.survey(told, ruling);
            view.forget();
            lives.forget();
            stale = false;
        }
    }

    private View viewAt(int age) {
        settle();
        view.turnTo(ruling.bothLevels(age));
        return view;
    }

    private int islandOf(int cell, int level) {
        if (ground.middle[cell] <= level) {
            return 0;
        }
        for (int c = 0; c < CELLS; c++) {
            flood.open[c] = ground.middle[c] > level;
        }
        return flood.spread(cell);
    }

    /** The first AGE of the span that an AGE lies in, with LIVE of all CELLS worked out for it. */
    private int spanKnown(int age) {
        int span = ruling.spanStart[age];
        if (lives.total[span] == NONE) {
            view.turnTo(ruling.bothLevels(span));
            lives.workOut(span, ruling, view);
        }
        return span;
    }

    private long sumLives(int from, int to) {
        long sum = 0;
        for (int age = from; age <= to; age++) {
            sum += lives.total[spanKnown(age)];
        }
        return sum;
    }

    private long sumLivesIn(int cell, int from, int to) {
        long sum = 0;
        for (int age = from; age <= to; age++) {
            sum += lives.of(spanKnown(age), cell);
        }
        return sum;
    }

    private int sumFish(int quarter, int age, View at) {
        int sum = 0;
        for (int c = 0; c < CELLS; c++) {
            if (quarterOf(c) == quarter) {
                sum += ruling.first(FISH, at.wordsOf(c, age), 0);
            }
        }
        return sum;
    }

    /** Puts LEFT of a CELL into the ratio, whose lower number is above 0 then. */
    private void reckonLeft(int cell, View at) {
        if (!at.land[cell]) {
            ratio.put(0, 1);
            return;
        }
        int kind = at.kindOf(cell);
        long camp = told.camps[kind] + 1;
        long none = told.dry[kind] + 2 - camp;
        for (int i = 0; i < told.buckets[cell]; i++) {
            camp *= 10 - ruling.catching;
            none *= 10;
        }
        ratio.put(camp, camp + none);
    }

    /** All that an IMAGE holds. */
    private static final class Told {
        final int[] low = new int[CELLS];
        final int[] high = new int[CELLS];
        final int[] buckets = new int[CELLS];
        final int[] mud = new int[CELLS];
        final int[] dry = new int[KINDS];
        final int[] camps = new int[KINDS];
        final int[] findCell = new int[MOST_FINDS];
        final int[] findHow = new int[MOST_FINDS];
        final int[] findFrom = new int[MOST_FINDS];
        final int[] findTo = new int[MOST_FINDS];
        final int[] places = new int[MOST_PLACES];
        final int[] letterTree = new int[MOST_LETTERS];
        final int[] letterHeight = new int[MOST_LETTERS];
        final int[] letterFrom = new int[MOST_LETTERS];
        final int[] letterTo = new int[MOST_LETTERS];
        int mudCount = 0;
        int dryCount = 0;
        int findCount = 0;
        int placeCount = 0;
        int letterCount = 0;

        Told() {
            Arrays.fill(high, TOP);
            Arrays.fill(mud, NONE);
        }

        void take(Told other) {
            System.arraycopy(other.low, 0, low, 0, CELLS);
            System.arraycopy(other.high, 0, high, 0, CELLS);
            System.arraycopy(other.buckets, 0, buckets, 0, CELLS);
            System.arraycopy(other.mud, 0, mud, 0, CELLS);
            System.arraycopy(other.dry, 0, dry, 0, KINDS);
            System.arraycopy(other.camps, 0, camps, 0, KINDS);
            System.arraycopy(other.findCell, 0, findCell, 0, MOST_FINDS);
            System.arraycopy(other.findHow, 0, findHow, 0, MOST_FINDS);
            System.arraycopy(other.findFrom, 0, findFrom, 0, MOST_FINDS);
            System.arraycopy(other.findTo, 0, findTo, 0, MOST_FINDS);
            System.arraycopy(other.places, 0, places, 0, MOST_PLACES);
            System.arraycopy(other.letterTree, 0, letterTree, 0, MOST_LETTERS);
            System.arraycopy(other.letterHeight, 0, letterHeight, 0, MOST_LETTERS);
            System.arraycopy(other.letterFrom, 0, letterFrom, 0, MOST_LETTERS);
            System.arraycopy(other.letterTo, 0, letterTo, 0, MOST_LETTERS);
            mudCount = other.mudCount;
            dryCount = other.dryCount;
            findCount = other.findCount;
            placeCount = other.placeCount;
            letterCount = other.letterCount;
        }

        boolean isPlace(int cell) {
            for (int p = 0; p < placeCount; p++) {
                if (places[p] == cell) {
                    return true;
                }
            }
            return false;
        }

        int countBuckets() {
            int all = 0;
            for (int c = 0; c < CELLS; c++) {
                all += buckets[c];
            }
            return all;
        }
    }

    /**
     * A LAW as it is used: levels by AGES, and the RULES with an N that may hang
     * on words. Their conditions are one row of steps for a stack of bits.
     */
    private static final class Law {
        static final int BELOW = 0;
        static final int ABOVE = 1;
        static final int LIKE = 2;
        static final int NOT = 3;
        static final int AND = 4;
        static final int OR = 5;

        int rules = 0;
        int asking = 0;
        final int[] kind = new int[MOST_RULES];
        final int[] number = new int[MOST_RULES];
        final int[] codeFrom = new int[MOST_RULES];
        final int[] codeTo = new int[MOST_RULES];
        final int[] code = new int[TAPE];
        int codeLength = 0;
        final int[] seaLow = new int[AGES];
        final int[] seaHigh = new int[AGES];
        final boolean[] seaTold = new boolean[AGES];
        final boolean[] edge = new boolean[AGES];
        /** LAND and all that RULES say is alike at each AGE with the same entry here. */
        final int[] spanStart = new int[AGES];
        int catching = 0;
        final int[] carrying = new int[HOWS];

        void clear() {
            rules = 0;
            asking = 0;
            codeLength = 0;
            catching = 0;
            Arrays.fill(carrying, 0);
            for (int age = 0; age < AGES; age++) {
                seaTold[age] = false;
                edge[age] = false;
            }
        }

        void putSea(int age, int low, int high) {
            seaTold[age] = true;
            seaLow[age] = low;
            seaHigh[age] = high;
            edge[age] = true;
        }

        void putAsking(int ofKind, int n, int from) {
            if (asking < MOST_RULES) {
                kind[asking] = ofKind;
                number[asking] = n;
                codeFrom[asking] = from;
                codeTo[asking] = codeLength;
                asking++;
            }
        }

        void putStep(int step) {
            if (codeLength < TAPE) {
                code[codeLength] = step;
                codeLength++;
            }
        }

        void putComparison(int word, int sign, int value) {
            putStep(value << 8 | word << 4 | sign);
            if (word == WORD_AGE) {
                if (sign != ABOVE) {
                    putEdge(value);
                }
                if (sign != BELOW) {
                    putEdge(value + 1);
                }
            }
        }

        private void putEdge(int age) {
            if (age < AGES) {
                edge[age] = true;
            }
        }

        /** Carries each "sea" on to the AGES behind it, and each span's first AGE. */
        void finish() {
            int low = 0;
            int high = 0;
            int start = 0;
            for (int age = 0; age < AGES; age++) {
                if (seaTold[age]) {
                    low = seaLow[age];
                    high = seaHigh[age];
                }
                seaLow[age] = low;
                seaHigh[age] = high;
                start = edge[age] ? age : start;
                spanStart[age] = start;
            }
        }

        int bothLevels(int age) {
            return seaLow[age] + seaHigh[age];
        }

        int firstAgeAt(int[] levels, int height) {
            for (int age = 0; age < AGES; age++) {
                if (levels[age] >= height) {
                    return age;
                }
            }
            return AGES;
        }

        int first(int ofKind, int[] words, int otherwise) {
            for (int r = 0; r < asking; r++) {
                if (kind[r] == ofKind && holds(r, words)) {
                    return number[r];
                }
            }
            return otherwise;
        }

        private boolean holds(int rule, int[] words) {
            // the top is the lowest bit; nine open at most keep the stack far below 64
            long stack = 1;
            for (int i = codeFrom[rule]; i < codeTo[rule]; i++) {
                int step = code[i];
                int sign = step & 15;
                if (sign == NOT) {
                    stack ^= 1;
                } else if (sign == AND) {
                    stack = stack >>> 1 & (stack | ~1L);
                } else if (sign == OR) {
                    stack = stack >>> 1 | stack & 1;
                } else {
                    boolean so = compares(words[step >> 4 & WORDS - 1], sign, step >> 8);
                    stack = stack << 1 | (so ? 1 : 0);
                }
            }
            return (stack & 1) == 1;
        }

        private static boolean compares(int word, int sign, int value) {
            if (sign == BELOW) {
                return word < value;
            }
            return sign == ABOVE ? word > value : word == value;
        }
    }

    /**
     * The tape, and how a LAW is read from it. Each method that reads a part answers
     * false as soon as the token in hand fits no such text: that token's place is the FAULT.
     */
    private static final class Reader {
        static final int END = 0;
        static final int WORD = 1;
        static final int NUMBER = 2;
        static final int SIGN = 3;
        static final int TOO_MUCH = 10000;

        final int[] tape = new int[TAPE];
        int length = 0;
        private int end = 0;
        private int at = 0;
        private int next = 0;
        private int token = END;
        private int value = 0;
        private int taken = 0;

        void put(int four) {
            for (int shift = 24; shift >= 0; shift -= 8) {
                if (length < TAPE) {
                    tape[length] = four >>> shift & 255;
                    length++;
                }
            }
        }

        /** Answers the FAULT's place, or NONE if the first n bytes are a LAW. */
        int read(int n, Law into) {
            into.clear();
            end = n;
            next = 0;
            step();
            for (int r = 0; r < MOST_RULES && token != END; r++) {
                int kind = ruleWord();
                if (kind == NONE) {
                    return at;
                }
                step();
                boolean well;
                if (kind == SEA) {
                    well = readSea(into);
                } else if (kind == CARRY) {
                    well = readCarry(into);
                } else if (kind == CATCH) {
                    well = readCatch(into);
                } else {
                    well = readAsking(kind, into);
                }
                if (!well || !takeSign(';')) {
                    return at;
                }
                into.rules++;
            }
            if (token != END) {
                return at;
            }
            into.finish();
            return NONE;
        }

        private boolean readSea(Law into) {
            if (!takeNumber(0, AGES - 1)) {
                return false;
            }
            int age = taken;
            if (!takeNumber(0, TOP)) {
                return false;
            }
            int low = taken;
            if (isWord("to")) {
                step();
                if (!takeNumber(low, TOP)) {
                    return false;
                }
            }
            into.putSea(age, low, taken);
            return true;
        }

        private boolean readCarry(Law into) {
            int how = howWord();
            if (how == NONE) {
                return false;
            }
            step();
            if (!takeNumber(0, 100)) {
                return false;
            }
            into.carrying[how] = taken;
            return true;
        }

        private boolean readCatch(Law into) {
            if (!takeNumber(0, 10)) {
                return false;
            }
            into.catching = taken;
            return true;
        }

        private boolean readAsking(int kind, Law into) {
            if (!takeNumber(0, kind == KEEP ? 100 : TOP)) {
                return false;
            }
            int n = taken;
            int from = into.codeLength;
            if (isWord("if")) {
                step();
                if (!readAny(0, into)) {
                    return false;
                }
            }
            into.putAsking(kind, n, from);
            return true;
        }

        private boolean readAny(int open, Law into) {
            if (!readAll(open, into)) {
                return false;
            }
            for (int i = 0; i < TAPE && isWord("or"); i++) {
                step();
                if (!readAll(open, into)) {
                    return false;
                }
                into.putStep(Law.OR);
            }
            return true;
        }

        private boolean readAll(int open, Law into) {
            if (!readOne(open, into)) {
                return false;
            }
            for (int i = 0; i < TAPE && isWord("and"); i++) {
                step();
                if (!readOne(open, into)) {
                    return false;
                }
                into.putStep(Law.AND);
            }
            return true;
        }

        private boolean readOne(int open, Law into) {
            boolean not = isWord("not");
            if (not || isSign('(')) {
                if (open >= MOST_OPEN) {
                    return false;
                }
                step();
                if (!not) {
                    return readAny(open + 1, into) && takeSign(')');
                }
                boolean well = readOne(open + 1, into);
                into.putStep(Law.NOT);
                return well;
            }
            int word = askedWord();
            if (word == NONE) {
                return false;
            }
            step();
            int sign = comparingSign();
            if (sign == NONE) {
                return false;
            }
            step();
            if (!takeNumber(0, TOO_MUCH - 1)) {
                return false;
            }
            into.putComparison(word, sign, taken);
            return true;
        }

        private boolean takeNumber(int least, int most) {
            if (token != NUMBER || value < least || value > most) {
                return false;
            }
            taken = value;
            step();
            return true;
        }

        private boolean takeSign(char sign) {
            if (!isSign(sign)) {
                return false;
            }
            step();
            return true;
        }

        private boolean isSign(char sign) {
            return token == SIGN && value == sign;
        }

        private boolean isWord(String word) {
            if (token != WORD || next - at != word.length()) {
                return false;
            }
            for (int i = 0; i < word.length(); i++) {
                if (tape[at + i] != word.charAt(i)) {
                    return false;
                }
            }
            return true;
        }

        private int ruleWord() {
            if (isWord("sea")) {
                return SEA;
            }
            if (isWord("sink")) {
                return SINK;
            }
            if (isWord("live")) {
                return LIVE;
            }
            if (isWord("fish")) {
                return FISH;
            }
            if (isWord("keep")) {
                return KEEP;
            }
            if (isWord("carry")) {
                return CARRY;
            }
            return isWord("catch") ? CATCH : NONE;
        }

        private int howWord() {
            if (isWord("fished")) {
                return FISHED;
            }
            if (isWord("cored")) {
                return 1;
            }
            return isWord("grabbed") ? 2 : NONE;
        }

        private int askedWord() {
            if (isWord("x")) {
                return WORD_X;
            }
            if (isWord("y")) {
                return WORD_Y;
            }
            if (isWord("age")) {
                return WORD_AGE;
            }
            if (isWord("height")) {
                return WORD_HEIGHT;
            }
            if (isWord("river")) {
                return WORD_RIVER;
            }
            if (isWord("coast")) {
                return WORD_COAST;
            }
            return isWord("wind") ? WORD_WIND : NONE;
        }

        private int comparingSign() {
            if (isSign('<')) {
                return Law.BELOW;
            }
            if (isSign('>')) {
                return Law.ABOVE;
            }
            return isSign('=') ? Law.LIKE : NONE;
        }

        /** Takes the next token in hand; a byte that begins none is a sign that fits nowhere. */
        private void step() {
            while (next < end && (tape[next] == ' ' || tape[next] == 10)) {
                next++;
            }
            at = next;
            value = 0;
            if (at >= end) {
                token = END;
            } else if (tape[at] >= 'a' && tape[at] <= 'z') {
                token = WORD;
                while (next < end && tape[next] >= 'a' && tape[next] <= 'z') {
                    next++;
                }
            } else if (tape[at] >= '0' && tape[at] <= '9') {
                token = NUMBER;
                while (next < end && tape[next] >= '0' && tape[next] <= '9') {
                    value = next - at < 4 ? value * 10 + tape[next] - '0' : TOO_MUCH;
                    next++;
                }
            } else {
                token = SIGN;
                value = tape[at];
                next++;
            }
        }
    }

    /** What hangs on heights and "sink" alone, the same at all AGES. */
    private static final class Ground {
        static final int MIDDLES = 2 * TOP + 1;

        final int[] sunk = new int[CELLS];
        final int[] low = new int[CELLS];
        final int[] high = new int[CELLS];
        final int[] middle = new int[CELLS];
        final int[] flow = new int[CELLS];
        final int[] river = new int[CELLS];
        final int[] wind = new int[CELLS];
        final int[] end = new int[CELLS];
        private final int[] order = new int[CELLS];
        private final int[] starts = new int[MIDDLES + 1];
        private final int[] words = new int[WORDS];

        void survey(Told told, Law law) {
            for (int c = 0; c < CELLS; c++) {
                words[WORD_X] = c % SIDE;
                words[WORD_Y] = c / SIDE;
                sunk[c] = law.first(SINK, words, 0);
                low[c] = Math.min(TOP, told.low[c] + sunk[c]);
                high[c] = Math.min(TOP, told.high[c] + sunk[c]);
                middle[c] = low[c] + high[c];
            }
            for (int c = 0; c < CELLS; c++) {
                flow[c] = lowestBeside(c);
                wind[c] = countHigherRound(c);
            }
            sortByMiddle();
            runWater();
        }

        private int lowestBeside(int cell) {
            int lowest = NONE;
            int least = middle[cell];
            for (int side = 0; side < 4; side++) {
                int other = beside(cell, side);
                if (other != NONE && middle[other] < least) {
                    lowest = other;
                    least = middle[other];
                }
            }
            return lowest;
        }

        private int countHigherRound(int cell) {
            int west = cell % SIDE == 0 ? 0 : 1;
            int east = cell % SIDE == SIDE - 1 ? 0 : 1;
            int own = middle[cell];
            int higher = 0;
            for (int row = cell - SIDE; row <= cell + SIDE; row += SIDE) {
                if (isCell(row)) {
                    for (int c = row - west; c <= row + east; c++) {
                        higher += middle[c] > own ? 1 : 0;
                    }
                }
            }
            return higher;
        }

        private void sortByMiddle() {
            Arrays.fill(starts, 0);
            for (int c = 0; c < CELLS; c++) {
                starts[middle[c] + 1]++;
            }
            for (int m = 0; m < MIDDLES; m++) {
                starts[m + 1] += starts[m];
            }
            for (int c = 0; c < CELLS; c++) {
                order[starts[middle[c]]] = c;
                starts[middle[c]]++;
            }
        }

        /** Water goes to a lesser MIDDLE only, so one way down adds it up and one way up finds its END. */
        private void runWater() {
            Arrays.fill(river, 1);
            for (int i = CELLS - 1; i >= 0; i--) {
                int c = order[i];
                river[c] = Math.min(river[c], FAR);
                if (flow[c] != NONE) {
                    river[flow[c]] += river[c];
                }
            }
            for (int i = 0; i < CELLS; i++) {
                int c = order[i];
                end[c] = flow[c] == NONE ? c : end[flow[c]];
            }
        }

        boolean isSure(int cell) {
            int to = flow[cell];
            if (to == NONE || high[to] >= low[cell]) {
                return false;
            }
            for (int side = 0; side < 4; side++) {
                int other = beside(cell, side);
                if (other != NONE && other != to && low[other] < high[to]) {
                    return false;
                }
            }
            return true;
        }
    }

    /** The land as it lies when both LEVELS of SEA together are so high. */
    private static final class View {
        final boolean[] land = new boolean[CELLS];
        final int[] coast = new int[CELLS];
        final Ground ground = new Ground();
        private final int[] queue = new int[CELLS];
        private final int[] words = new int[WORDS];
        private final int[] kinds = new int[KINDS];
        private int level = NONE;

        void forget() {
            level = NONE;
        }

        void turnTo(int newLevel) {
            if (newLevel == level) {
                return;
            }
            level = newLevel;
            int waiting = 0;
            for (int c = 0; c < CELLS; c++) {
                land[c] = ground.middle[c] > level;
                coast[c] = FAR;
                if (!land[c]) {
                    coast[c] = 0;
                    queue[waiting] = c;
                    waiting++;
                }
            }
            stepInland(waiting);
        }

        private void stepInland(int atSea) {
            int waiting = atSea;
            for (int i = 0; i < waiting && i < CELLS; i++) {
                int c = queue[i];
                for (int side = 0; side < 4; side++) {
                    int other = beside(c, side);
                    if (other != NONE && coast[other] == FAR && waiting < CELLS) {
                        coast[other] = coast[c] + 1;
                        queue[waiting] = other;
                        waiting++;
                    }
                }
            }
        }

        int heightOf(int cell) {
            return land[cell] ? (ground.middle[cell] - level) / 2 : 0;
        }

        /** The highest WAVE with which a CELL of LAND isn't GONE. */
        int standsTo(int cell, int drop) {
            return heightOf(cell) + drop * coast[cell];
        }

        int[] wordsOf(int cell, int age) {
            words[WORD_X] = cell % SIDE;
            words[WORD_Y] = cell / SIDE;
            words[WORD_AGE] = age;
            words[WORD_HEIGHT] = heightOf(cell);
            words[WORD_RIVER] = ground.river[cell];
            words[WORD_COAST] = coast[cell];
            words[WORD_WIND] = ground.wind[cell];
            return words;
        }

        int kindOf(int cell) {
            int kind = ground.river[cell] > 9 ? 1 : 0;
            kind += coast[cell] < 3 ? 2 : 0;
            kind += ground.wind[cell] > 3 ? 4 : 0;
            kind += heightOf(cell) < 20 ? 8 : 0;
            return kind;
        }

        int[] countKinds() {
            Arrays.fill(kinds, 0);
            for (int c = 0; c < CELLS; c++) {
                if (land[c]) {
                    kinds[kindOf(c)]++;
                }
            }
            return kinds;
        }

        boolean isFord(int cell, int line) {
            if (!land[cell] || ground.river[cell] < line) {
                return false;
            }
            boolean eastAndWest = isBank(beside(cell, 1), line) && isBank(beside(cell, 2), line);
            return eastAndWest || isBank(beside(cell, 0), line) && isBank(beside(cell, 3), line);
        }

        private boolean isBank(int cell, int line) {
            return cell != NONE && land[cell] && ground.river[cell] < line;
        }
    }

    /** LIVE (0 at sea) of all CELLS, worked out once for each span of AGES that are alike. */
    private static final class Lives {
        static final int MOST_LIVE = 99;

        /** By spans; NONE until it is worked out. */
        final int[] total = new int[AGES];
        private final byte[] rows = new byte[AGES * CELLS];
        private final int[] having = new int[MOST_LIVE + 1];

        void forget() {
            Arrays.fill(total, NONE);
        }

        void workOut(int span, Law law, View at) {
            int sum = 0;
            for (int c = 0; c < CELLS; c++) {
                int live = at.land[c] ? law.first(LIVE, at.wordsOf(c, span), 0) : 0;
                rows[span * CELLS + c] = (byte) live;
                sum += live;
            }
            total[span] = sum;
        }

        int of(int span, int cell) {
            return rows[span * CELLS + cell];
        }

        int before(int span, int cell) {
            int sum = 0;
            for (int c = 0; c < cell; c++) {
                sum += of(span, c);
            }
            return sum;
        }

        /** The CELL that is the k-th AHEAD: first how much LIVE it has, then which one of those it is. */
        int ranked(int span, int k) {
            Arrays.fill(having, 0);
            for (int c = 0; c < CELLS; c++) {
                having[of(span, c)]++;
            }
            int live = MOST_LIVE;
            int toPass = k;
            while (live > 0 && having[live] <= toPass) {
                toPass -= having[live];
                live--;
            }
            for (int c = 0; c < CELLS; c++) {
                if (of(span, c) == live) {
                    if (toPass == 0) {
                        return c;
                    }
                    toPass--;
                }
            }
            return NONE;
        }

        boolean isNotBehind(int span, int cell, int other) {
            if (other == NONE) {
                return false;
            }
            int live = of(span, cell);
            int liveThere = of(span, other);
            return live > liveThere || live == liveThere && cell <= other;
        }
    }

    /** Cells that hang together: open ones are closed as they are come to. */
    private static final class Flood {
        final boolean[] open = new boolean[CELLS];
        private final int[] queue = new int[CELLS];

        int spread(int start) {
            if (!open[start]) {
                return 0;
            }
            open[start] = false;
            queue[0] = start;
            int waiting = 1;
            for (int i = 0; i < waiting && i < CELLS; i++) {
                for (int side = 0; side < 4; side++) {
                    int other = beside(queue[i], side);
                    if (other != NONE && open[other] && waiting < CELLS) {
                        open[other] = false;
                        queue[waiting] = other;
                        waiting++;
                    }
                }
            }
            return waiting;
        }

        int countParts() {
            int parts = 0;
            for (int c = 0; c < CELLS; c++) {
                if (spread(c) > 0) {
                    parts++;
                }
            }
            return parts;
        }
    }

    /** The best way to lay BUCKETS at PLACES, kept until something is told that could change it. */
    private static final class Ways {
        static final int STEP = MOST_LAID + 1;

        final int[] best = new int[MOST_PLACES];
        long least = MILLION;
        private final int[] way = new int[MOST_PLACES];
        private final long[] nothing = new long[MOST_PLACES * STEP];
        private int places = 0;
        private int laid = 0;
        private int ofAge = NONE;

        void forget() {
            ofAge = NONE;
        }

        boolean isOf(int n, int age) {
            return ofAge == age && laid == n;
        }

        /** NOTHING at a PLACE with LEFT in millionths, for each number of BUCKETS laid. */
        void weigh(int place, long left, int catching) {
            long missed = 1;
            long all = 1;
            for (int k = 0; k < STEP; k++) {
                nothing[place * STEP + k] = MILLION - left + left * missed / all;
                missed *= 10 - catching;
                all *= 10;
            }
        }

        void choose(int n, int age, int placeCount) {
            laid = n;
            ofAge = age;
            places = placeCount;
            least = MILLION + 1;
            lay(0, n, MILLION);
        }

        /** Goes through the ways in their order, so of several the first stays the best. */
        private void lay(int place, int toLay, long leave) {
            if (place >= MOST_PLACES) {
                return;
            }
            boolean isLast = place >= places - 1;
            for (int k = toLay; k >= (isLast ? toLay : 0); k--) {
                way[place] = k;
                long then = leave * nothing[place * STEP + k] / MILLION;
                if (!isLast) {
                    lay(place + 1, toLay - k, then);
                } else if (then < least) {
                    least = then;
                    System.arraycopy(way, 0, best, 0, MOST_PLACES);
                }
            }
        }
    }

    /** The draws of a WORLD. */
    private static final class Draw {
        private long z;

        Draw(long seed) {
            z = seed;
        }

        int next(int below) {
            z = z * 6364136223846793005L + 1442695040888963407L;
            return below > 0 ? (int) ((z >>> 33) % below) : 0;
        }
    }

    /** Two numbers, neither below 0, the lower above it, in lowest terms. */
    private static final class Ratio {
        static final int STEPS = 200;

        long upper = 0;
        long lower = 1;

        void put(long newUpper, long newLower) {
            long a = newUpper;
            long b = newLower;
            for (int i = 0; i < STEPS && b != 0; i++) {
                long r = a % b;
                a = b;
                b = r;
            }
            long common = a == 0 ? 1 : a;
            upper = newUpper / common;
            lower = newLower == 0 ? 1 : newLower / common;
        }

        long part(int what) {
            return what == 0 ? upper : lower;
        }

        /** How many of so many parts it is, cut. */
        long cutTo(long parts) {
            return lower == 0 ? 0 : parts * upper / lower;
        }

        /**
         * Whether a by b is below (-1), like (0) or above (1) c by d; by whole parts and what is
         * over, as a product of two such numbers can be too much for 64 bits.
         */
        static int compare(long a, long b, long c, long d) {
            long up = a;
            long down = b;
            long upOther = c;
            long downOther = d;
            for (int i = 0; i < STEPS && down != 0 && downOther != 0; i++) {
                int whole = Long.compare(up / down, upOther / downOther);
                if (whole != 0) {
                    return whole;
                }
                long over = up % down;
                long overOther = upOther % downOther;
                if (over == 0 || overOther == 0) {
                    return Long.compare(over, overOther);
                }
                // the greater of two parts is the one that turns into the lesser upside down
                up = downOther;
                downOther = over;
                upOther = down;
                down = overOther;
            }
            return 0;
        }
    }
}
