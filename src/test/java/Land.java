/**
 * A DrownedLand that counts its calls. The document says nothing of what an object answers after its 512th call,
 * so a test that goes on asking one is itself wrong, and says so.
 */
final class Land {
    static final int NONE = DrownedLand.NONE;
    private static final int MOST_CALLS = 512;
    private final DrownedLand land;
    private int calls = 0;

    Land() {
        this(new DrownedLand());
    }

    Land(DrownedLand land) {
        this.land = land;
    }

    /** How many calls are left of those that the document speaks of. */
    int callsLeft() {
        return MOST_CALLS - calls;
    }

    private void use() {
        calls++;
        if (calls == MOST_CALLS + 1) {
            Check.due("calls of one object that this test asks for", calls, MOST_CALLS);
        }
    }

    boolean sound(int cell, int low, int high) {
        use();
        return land.sound(cell, low, high);
    }

    int feed(int a, int b, int c, int d, int e) {
        use();
        return land.feed(a, b, c, d, e);
    }

    int law(int n) {
        use();
        return land.law(n);
    }

    int fault() {
        use();
        return land.fault();
    }

    int sea(int age, int what) {
        use();
        return land.sea(age, what);
    }

    int cell(int cell, int what) {
        use();
        return land.cell(cell, what);
    }

    int asked(int cell, int age, int what) {
        use();
        return land.asked(cell, age, what);
    }

    int shore(int age) {
        use();
        return land.shore(age);
    }

    int alone(int cell, int most, int what) {
        use();
        return land.alone(cell, most, what);
    }

    long lived(int cell, int from, int to, int what) {
        use();
        return land.lived(cell, from, to, what);
    }

    int dry(int kind, boolean camp) {
        use();
        return land.dry(kind, camp);
    }

    int learnt(int kind, int what) {
        use();
        return land.learnt(kind, what);
    }

    int tried(int what) {
        use();
        return land.tried(what);
    }

    int bucket(int cell, int n) {
        use();
        return land.bucket(cell, n);
    }

    long left(int cell, int age, int what) {
        use();
        return land.left(cell, age, what);
    }

    int find(int cell, int how, int from, int to) {
        use();
        return land.find(cell, how, from, to);
    }

    int found(int find, int what) {
        use();
        return land.found(find, what);
    }

    long carried(int find, int what) {
        use();
        return land.carried(find, what);
    }

    int gone(int cell, int age, int high, int drop) {
        use();
        return land.gone(cell, age, high, drop);
    }

    int rest(int age, int high, int drop, int what) {
        use();
        return land.rest(age, high, drop, what);
    }

    int mud(int cell, boolean wet) {
        use();
        return land.mud(cell, wet);
    }

    int height(int age, int drop, int what) {
        use();
        return land.height(age, drop, what);
    }

    int place(int cell) {
        use();
        return land.place(cell);
    }

    int ship(int n, int age, int what) {
        use();
        return land.ship(n, age, what);
    }

    int lean(int quarter, int age) {
        use();
        return land.lean(quarter, age);
    }

    long right(int quarter, int age, int what) {
        use();
        return land.right(quarter, age, what);
    }

    int ahead(int age, int k) {
        use();
        return land.ahead(age, k);
    }

    int held(int age, int k, int what) {
        use();
        return land.held(age, k, what);
    }

    int world(int seed, int age, int camps, int cell, int buckets) {
        use();
        return land.world(seed, age, camps, cell, buckets);
    }

    int say(int cell, int age) {
        use();
        return land.say(cell, age);
    }

    int ford(int age, int line, int k) {
        use();
        return land.ford(age, line, k);
    }

    int ends(int cell, int what) {
        use();
        return land.ends(cell, what);
    }

    int letter(boolean tree, int height, int from, int to) {
        use();
        return land.letter(tree, height, from, to);
    }

    int levels(int age, int what) {
        use();
        return land.levels(age, what);
    }

    int fits(int k) {
        use();
        return land.fits(k);
    }

    int unlike(int age) {
        use();
        return land.unlike(age);
    }

    int doubt(int age) {
        use();
        return land.doubt(age);
    }

    int image() {
        use();
        return land.image();
    }

    boolean restore(int image) {
        use();
        return land.restore(image);
    }

    int count(int what) {
        use();
        return land.count(what);
    }
}
