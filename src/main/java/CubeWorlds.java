/**
 * Small worlds whose sums are bit by bit and whose products are told by cubes:
 * division, ones, quotients, turned cubes, what joins, likeness under three maps,
 * the planes they draw and the ranks of their multipliers.
 */
public final class CubeWorlds {
    public static final int UNKNOWN = -1, OUTSIDE = -2, STATE = -3, FULL = -4, NONE = -9;

    private static final int SLOTS = 4;
    private static final int MAPS = 3;
    private static final int MOST_BITS = 4;
    private static final int MOST_NUMBERS = 16;
    private static final int MOST_BITS_OF_WAYS = 3;
    private static final int MOST_BITS_OF_CUBES = 2;
    private static final int TURNS = 6;
    private static final int CENTRE = 3;

    /** By n: the polynomial that is taken off; n of 1 needs none, as 1 by 1 is 1. */
    private static final int[] FIELD_LESS = {0, 0, 7, 11, 19};

    private final World[] worlds = new World[SLOTS];
    private final int[][] maps = new int[MAPS][MOST_BITS];

    // These are filled anew by the calls that use them, so that no call makes rows of its own.
    private final World trial = new World();
    private final int[] cells = new int[MOST_BITS * MOST_BITS];
    private final int[] tryA = new int[MOST_BITS];
    private final int[] tryC = new int[MOST_BITS];
    private final int[] unwound = new int[MOST_BITS];

    public CubeWorlds() {
        for (int slot = 0; slot < worlds.length; slot++) {
            worlds[slot] = new World();
        }
    }

    // ---- worlds

    public int world(int slot, int n) {
        World w = worldIn(slot);
        if (w == null) {
            return UNKNOWN;
        }
        if (!isSomeN(n)) {
            return OUTSIDE;
        }
        for (int i = 0; i < n; i++) {
            for (int j = 0; j < n; j++) {
                cells[cellIndex(i, j)] = 0;
            }
        }
        w.take(n, cells);
        return w.size();
    }

    public int put(int slot, int i, int j, int v) {
        World w = worldIn(slot);
        if (w == null || !w.has(v)) {
            return UNKNOWN;
        }
        if (!w.hasBit(i) || !w.hasBit(j)) {
            return OUTSIDE;
        }
        int before = w.cell(i, j);
        w.changeCell(i, j, v);
        return before;
    }

    public int field(int slot, int n) {
        World w = worldIn(slot);
        if (w == null) {
            return UNKNOWN;
        }
        if (!isSomeN(n)) {
            return OUTSIDE;
        }
        for (int i = 0; i < n; i++) {
            for (int j = 0; j < n; j++) {
                cells[cellIndex(i, j)] = reduced(1 << (i + j), n);
            }
        }
        w.take(n, cells);
        return w.size();
    }

    public int product(int slot, int x, int y) {
        World w = worldIn(slot);
        if (w == null || !w.has(x) || !w.has(y)) {
            return UNKNOWN;
        }
        return w.times(x, y);
    }

    public int divides(int slot) {
        World w = worldIn(slot);
        if (w == null) {
            return UNKNOWN;
        }
        return oneIf(w.isWhole());
    }

    public int broken(int slot, boolean second) {
        World w = worldIn(slot);
        if (w == null) {
            return UNKNOWN;
        }
        int x = w.leastBroken();
        return second && x != NONE ? w.leastPartner(x) : x;
    }

    public int one(int slot) {
        World w = worldIn(slot);
        if (w == null) {
            return UNKNOWN;
        }
        return w.unit();
    }

    public int quotient(int slot, int x, int z, boolean left) {
        World w = worldIn(slot);
        if (w == null || !w.has(x) || !w.has(z)) {
            return UNKNOWN;
        }
        return w.solve(x, z, left);
    }

    public int turn(int to, int slot, int t) {
        World target = worldIn(to);
        World w = worldIn(slot);
        if (target == null || w == null) {
            return UNKNOWN;
        }
        if (t < 0 || t >= TURNS) {
            return OUTSIDE;
        }
        int n = w.bits();
        for (int i = 0; i < n; i++) {
            for (int j = 0; j < n; j++) {
                cells[cellIndex(i, j)] = turnedCell(w, i, j, t);
            }
        }
        target.take(n, cells);
        return 1;
    }

    public int joins(int slot, int x, int way) {
        World w = worldIn(slot);
        if (w == null || !w.has(x)) {
            return UNKNOWN;
        }
        if (!isSomeWay(way)) {
            return OUTSIDE;
        }
        return oneIf(w.joinsIn(x, way));
    }

    public int many(int slot, int way) {
        World w = worldIn(slot);
        if (w == null) {
            return UNKNOWN;
        }
        if (!isSomeWay(way)) {
            return OUTSIDE;
        }
        int count = 0;
        for (int x = 0; x < w.size(); x++) {
            if (w.joinsIn(x, way)) {
                count++;
            }
        }
        return count;
    }

    public int unlike(int slot) {
        World w = worldIn(slot);
        if (w == null) {
            return UNKNOWN;
        }
        return w.countUnlike();
    }

    // ---- maps

    public int map(int map, int i, int v) {
        int[] row = mapAt(map);
        if (row == null) {
            return UNKNOWN;
        }
        if (i < 0 || i >= row.length || !isMapNumber(v)) {
            return OUTSIDE;
        }
        int before = row[i];
        row[i] = v;
        return before;
    }

    public int gives(int map, int x) {
        int[] row = mapAt(map);
        if (row == null) {
            return UNKNOWN;
        }
        if (!isMapNumber(x)) {
            return OUTSIDE;
        }
        return sumOf(row, x);
    }

    public int fits(int map, int n) {
        int[] row = mapAt(map);
        if (row == null) {
            return UNKNOWN;
        }
        if (!isSomeN(n)) {
            return OUTSIDE;
        }
        return oneIf(isFit(row, n));
    }

    public int alike(int a, int b) {
        World first = worldIn(a);
        World second = worldIn(b);
        if (first == null || second == null) {
            return UNKNOWN;
        }
        if (first.bits() != second.bits()) {
            return STATE;
        }
        return oneIf(allMapsFit(first.bits()) && mapsCarry(first, second));
    }

    public int carry(int to, int a) {
        World target = worldIn(to);
        World w = worldIn(a);
        if (target == null || w == null) {
            return UNKNOWN;
        }
        int n = w.bits();
        if (!allMapsFit(n)) {
            return STATE;
        }
        for (int i = 0; i < n; i++) {
            int x = sourceOf(maps[0], n, 1 << i);
            for (int j = 0; j < n; j++) {
                int y = sourceOf(maps[1], n, 1 << j);
                cells[cellIndex(i, j)] = sumOf(maps[2], w.times(x, y));
            }
        }
        target.take(n, cells);
        return 1;
    }

    public int ways(int a, int b) {
        World first = worldIn(a);
        World second = worldIn(b);
        if (first == null || second == null) {
            return UNKNOWN;
        }
        if (first.bits() != second.bits() || first.bits() > MOST_BITS_OF_WAYS) {
            return STATE;
        }
        if (!first.isWhole() || !second.isWhole()) {
            return STATE;
        }
        return countWays(first, second);
    }

    // ---- planes, ranks

    public int on(int slot, int point, int line) {
        World w = worldIn(slot);
        if (w == null || !Plane.has(w, point) || !Plane.has(w, line)) {
            return UNKNOWN;
        }
        return oneIf(Plane.lies(w, point, line));
    }

    public int join(int slot, int a, int b) {
        World w = worldIn(slot);
        if (w == null || !Plane.has(w, a) || !Plane.has(w, b)) {
            return UNKNOWN;
        }
        if (a == b) {
            return STATE;
        }
        return Plane.lineThrough(w, Math.min(a, b), Math.max(a, b));
    }

    public int meet(int slot, int a, int b) {
        World w = worldIn(slot);
        if (w == null || !Plane.has(w, a) || !Plane.has(w, b)) {
            return UNKNOWN;
        }
        if (a == b) {
            return STATE;
        }
        return Plane.pointOfBoth(w, Math.min(a, b), Math.max(a, b));
    }

    public int bad(int slot) {
        World w = worldIn(slot);
        if (w == null) {
            return UNKNOWN;
        }
        return Plane.countBadPairs(w);
    }

    public int rank(int slot, int y) {
        World w = worldIn(slot);
        if (w == null || !w.has(y)) {
            return UNKNOWN;
        }
        return w.rankOf(y);
    }

    public int ranks(int slot, int r) {
        World w = worldIn(slot);
        if (w == null) {
            return UNKNOWN;
        }
        if (r < 0 || r > MOST_BITS) {
            return OUTSIDE;
        }
        int count = 0;
        for (int y = 0; y < w.size(); y++) {
            if (w.rankOf(y) == r) {
                count++;
            }
        }
        return count;
    }

    public int cubes(int n) {
        if (n < 1 || n > MOST_BITS_OF_CUBES) {
            return OUTSIDE;
        }
        int bitsOfCube = n * n * n;
        int count = 0;
        for (int code = 0; code < 1 << bitsOfCube; code++) {
            readCells(code, n);
            trial.take(n, cells);
            if (trial.isWhole()) {
                count++;
            }
        }
        return count;
    }

    // ---- what is told of arguments

    private World worldIn(int slot) {
        return slot >= 0 && slot < worlds.length ? worlds[slot] : null;
    }

    private int[] mapAt(int map) {
        return map >= 0 && map < maps.length ? maps[map] : null;
    }

    private static boolean isSomeN(int n) {
        return n >= 1 && n <= MOST_BITS;
    }

    private static boolean isSomeWay(int way) {
        return way >= 0 && way <= CENTRE;
    }

    private static boolean isMapNumber(int v) {
        return v >= 0 && v < MOST_NUMBERS;
    }

    private static int oneIf(boolean holds) {
        return holds ? 1 : 0;
    }

    // ---- cubes

    /** The masks keep every index inside a row of 16, whatever i and j are. */
    private static int cellIndex(int i, int j) {
        return (i & 3) << 2 | (j & 3);
    }

    private static int reduced(int polynomial, int n) {
        int less = n >= 0 && n < FIELD_LESS.length ? FIELD_LESS[n] : 0;
        int rest = polynomial;
        for (int power = 2 * n - 2; power >= n; power--) {
            if ((rest >> power & 1) == 1) {
                rest ^= less << (power - n);
            }
        }
        return rest;
    }

    private static int turnedCell(World w, int i, int j, int t) {
        int cell = 0;
        for (int k = 0; k < w.bits(); k++) {
            cell |= turnedBit(w, i, j, k, t) << k;
        }
        return cell;
    }

    private static int turnedBit(World w, int i, int j, int k, int t) {
        switch (t) {
            case 1:
                return w.cubeBit(i, k, j);
            case 2:
                return w.cubeBit(j, i, k);
            case 3:
                return w.cubeBit(j, k, i);
            case 4:
                return w.cubeBit(k, i, j);
            case 5:
                return w.cubeBit(k, j, i);
            default:
                return w.cubeBit(i, j, k);
        }
    }

    private void readCells(int code, int n) {
        int rest = code;
        for (int i = 0; i < n; i++) {
            for (int j = 0; j < n; j++) {
                cells[cellIndex(i, j)] = rest & ((1 << n) - 1);
                rest >>= n;
            }
        }
    }

    // ---- maps

    private static int sumOf(int[] row, int x) {
        int sum = 0;
        for (int i = 0; i < row.length; i++) {
            if ((x >> i & 1) == 1) {
                sum ^= row[i];
            }
        }
        return sum;
    }

    private static boolean isFit(int[] row, int n) {
        int size = 1 << n;
        int seen = 0;
        for (int x = 0; x < size; x++) {
            int given = sumOf(row, x);
            if (given >= size || (seen >> given & 1) == 1) {
                return false;
            }
            seen |= 1 << given;
        }
        return true;
    }

    private boolean allMapsFit(int n) {
        for (int m = 0; m < maps.length; m++) {
            if (!isFit(maps[m], n)) {
                return false;
            }
        }
        return true;
    }

    /** Of a row that fits n, the number of which it gives v. */
    private static int sourceOf(int[] row, int n, int v) {
        for (int x = 0; x < 1 << n; x++) {
            if (sumOf(row, x) == v) {
                return x;
            }
        }
        return 0;
    }

    /** Both sides are sums over bits of x and of y, so single bits tell all. */
    private boolean mapsCarry(World a, World b) {
        for (int i = 0; i < a.bits(); i++) {
            for (int j = 0; j < a.bits(); j++) {
                int inB = b.times(sumOf(maps[0], 1 << i), sumOf(maps[1], 1 << j));
                if (inB != sumOf(maps[2], a.times(1 << i, 1 << j))) {
                    return false;
                }
            }
        }
        return true;
    }

    private int countWays(World a, World b) {
        int n = a.bits();
        for (int k = 0; k < n && k < unwound.length; k++) {
            unwound[k] = a.solve(1, 1 << k, false);
        }
        int count = 0;
        for (int code = 0; code < 1 << (n * n); code++) {
            readRow(tryA, code, n);
            if (isFit(tryA, n)) {
                for (int ofOne = 1; ofOne < b.size(); ofOne++) {
                    if (leavesWay(a, b, ofOne)) {
                        count++;
                    }
                }
            }
        }
        return count;
    }

    private static void readRow(int[] row, int code, int n) {
        for (int i = 0; i < n && i < row.length; i++) {
            row[i] = code >> (i * n) & ((1 << n) - 1);
        }
    }

    /**
     * Both worlds divide, so map A and what B gives of 1 leave one C at most
     * (from x by 1, which is every number), and A and C leave one B (from 1 by y).
     * Each is made of steps that lose no number, so B and C fit of themselves.
     */
    private boolean leavesWay(World a, World b, int ofOne) {
        int n = a.bits();
        for (int k = 0; k < n && k < tryC.length && k < unwound.length; k++) {
            tryC[k] = b.times(sumOf(tryA, unwound[k]), ofOne);
        }
        for (int j = 0; j < n; j++) {
            int given = b.solve(tryA[0], sumOf(tryC, a.times(1, 1 << j)), true);
            if (!agrees(a, b, j, given)) {
                return false;
            }
        }
        return true;
    }

    private boolean agrees(World a, World b, int j, int given) {
        for (int i = 0; i < a.bits() && i < tryA.length; i++) {
            if (b.times(tryA[i], given) != sumOf(tryC, a.times(1 << i, 1 << j))) {
                return false;
            }
        }
        return true;
    }

    /** One world: its cube, and the table of products that the cube makes. */
    private static final class World {
        private int bits = 1;
        private int size = 2;
        private final int[] cube = new int[MOST_BITS * MOST_BITS];
        private final int[] table = new int[MOST_NUMBERS * MOST_NUMBERS];

        World() {
            changeCell(0, 0, 1);
        }

        int bits() {
            return bits;
        }

        int size() {
            return size;
        }

        boolean has(int x) {
            return x >= 0 && x < size;
        }

        boolean hasBit(int i) {
            return i >= 0 && i < bits;
        }

        int cell(int i, int j) {
            return cube[cellIndex(i, j)];
        }

        int cubeBit(int i, int j, int k) {
            return cell(i, j) >> k & 1;
        }

        void changeCell(int i, int j, int v) {
            cube[cellIndex(i, j)] = v;
            fillTable();
        }

        void take(int n, int[] newCells) {
            bits = n;
            size = 1 << n;
            for (int index = 0; index < cube.length && index < newCells.length; index++) {
                cube[index] = newCells[index];
            }
            fillTable();
        }

        private void fillTable() {
            for (int x = 0; x < size; x++) {
                for (int y = 0; y < size; y++) {
                    table[tableIndex(x, y)] = sumOfCells(x, y);
                }
            }
        }

        private int sumOfCells(int x, int y) {
            int sum = 0;
            for (int i = 0; i < bits; i++) {
                for (int j = 0; j < bits; j++) {
                    if ((x >> i & y >> j & 1) == 1) {
                        sum ^= cell(i, j);
                    }
                }
            }
            return sum;
        }

        /** The masks keep every index inside the table, whatever x and y are. */
        private static int tableIndex(int x, int y) {
            return (x & 15) << 4 | (y & 15);
        }

        int times(int x, int y) {
            return table[tableIndex(x, y)];
        }

        boolean isWhole() {
            return leastBroken() == NONE;
        }

        int leastBroken() {
            for (int x = 1; x < size; x++) {
                if (leastPartner(x) != NONE) {
                    return x;
                }
            }
            return NONE;
        }

        /** The least y, not 0, with x by y 0. */
        int leastPartner(int x) {
            for (int y = 1; y < size; y++) {
                if (times(x, y) == 0) {
                    return y;
                }
            }
            return NONE;
        }

        int unit() {
            for (int e = 0; e < size; e++) {
                if (isUnit(e)) {
                    return e;
                }
            }
            return NONE;
        }

        private boolean isUnit(int e) {
            for (int x = 0; x < size; x++) {
                if (times(e, x) != x || times(x, e) != x) {
                    return false;
                }
            }
            return true;
        }

        /** The only y with x by y z (not left: y by x), or NONE. */
        int solve(int x, int z, boolean left) {
            int found = NONE;
            for (int y = 0; y < size; y++) {
                int made = left ? times(x, y) : times(y, x);
                if (made == z) {
                    if (found != NONE) {
                        return NONE;
                    }
                    found = y;
                }
            }
            return found;
        }

        boolean joinsIn(int x, int way) {
            if (way == CENTRE) {
                return commutes(x) && associates(x, 0) && associates(x, 1) && associates(x, 2);
            }
            return associates(x, way);
        }

        /** Both sides are sums over bits of y, so single bits tell all. */
        private boolean commutes(int x) {
            for (int j = 0; j < bits; j++) {
                if (times(x, 1 << j) != times(1 << j, x)) {
                    return false;
                }
            }
            return true;
        }

        /** Both sides are sums over bits of y and of z, so single bits tell all. */
        private boolean associates(int x, int way) {
            for (int i = 0; i < bits; i++) {
                for (int j = 0; j < bits; j++) {
                    if (!associatesWith(x, 1 << i, 1 << j, way)) {
                        return false;
                    }
                }
            }
            return true;
        }

        private boolean associatesWith(int x, int y, int z, int way) {
            switch (way) {
                case 0:
                    return isOneProduct(x, y, z);
                case 1:
                    return isOneProduct(y, x, z);
                default:
                    return isOneProduct(y, z, x);
            }
        }

        private boolean isOneProduct(int p, int q, int r) {
            return times(p, times(q, r)) == times(times(p, q), r);
        }

        int countUnlike() {
            int count = 0;
            for (int x = 0; x < size; x++) {
                for (int y = 0; y < size; y++) {
                    if (times(x, y) != times(y, x)) {
                        count++;
                    }
                }
            }
            return count;
        }

        int rankOf(int y) {
            int seen = 0;
            for (int x = 0; x < size; x++) {
                seen |= 1 << times(x, y);
            }
            int numbers = Integer.bitCount(seen);
            int r = 0;
            while (r < bits && 1 << r < numbers) {
                r++;
            }
            return r;
        }
    }

    /** The plane of a world: points and lines are numbers 0 .. N N + N. */
    private static final class Plane {
        private Plane() {
        }

        static boolean has(World w, int number) {
            return number >= 0 && number <= lastOf(w);
        }

        private static int insideOf(World w) {
            return w.size() * w.size();
        }

        private static int lastOf(World w) {
            return insideOf(w) + w.size();
        }

        private static int highPart(World w, int number) {
            return number >> w.bits();
        }

        private static int lowPart(World w, int number) {
            return number & (w.size() - 1);
        }

        static boolean lies(World w, int point, int line) {
            int inside = insideOf(w);
            int last = lastOf(w);
            if (line == last) {
                return point >= inside;
            }
            if (line >= inside) {
                return point == last || highPart(w, point) == line - inside;
            }
            int m = highPart(w, line);
            if (point >= inside) {
                return point == inside + m;
            }
            return (w.times(m, highPart(w, point)) ^ lowPart(w, line)) == lowPart(w, point);
        }

        /** Of two unlike points, the lesser first. */
        static int lineThrough(World w, int low, int high) {
            int inside = insideOf(w);
            int last = lastOf(w);
            if (low >= inside) {
                return last;
            }
            int x = highPart(w, low);
            if (high == last || highPart(w, high) == x) {
                return inside + x;
            }
            int m = high - inside;
            if (high < inside) {
                int rise = lowPart(w, low) ^ lowPart(w, high);
                m = w.solve(x ^ highPart(w, high), rise, false);
            }
            return m == NONE ? NONE : m << w.bits() | (w.times(m, x) ^ lowPart(w, low));
        }

        /** Of two unlike lines, the lesser first. */
        static int pointOfBoth(World w, int low, int high) {
            int inside = insideOf(w);
            int last = lastOf(w);
            if (low >= inside) {
                return last;
            }
            int m = highPart(w, low);
            if (high == last || highPart(w, high) == m) {
                return inside + m;
            }
            int x = high - inside;
            if (high < inside) {
                int gap = lowPart(w, low) ^ lowPart(w, high);
                x = w.solve(m ^ highPart(w, high), gap, true);
            }
            return x == NONE ? NONE : x << w.bits() | (w.times(m, x) ^ lowPart(w, low));
        }

        /**
         * Only lines of unlike steepness m, k can fail: their points are the x of which
         * (m + k) by x is the sum of b and c, and that is one x for all b, c or for none.
         * A number d that is not 0 is m + k for N / 2 pairs of m, k.
         */
        static int countBadPairs(World w) {
            int failing = 0;
            for (int d = 1; d < w.size(); d++) {
                if (w.leastPartner(d) != NONE) {
                    failing++;
                }
            }
            return failing * (w.size() >> 1) * insideOf(w);
        }
    }
}
