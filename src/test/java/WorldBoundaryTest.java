import java.util.Arrays;

/** Promises 1 to 13, each sentence that names a boundary: what is in, what is out, which refusal comes first. */
public final class WorldBoundaryTest {
    private static final int U = Cases.U, O = Cases.O, NONE = Cases.NONE;

    /** By n: a world in which only the last number by the last is 0; n of 4 has no such world. */
    private static final int[][] ONLY_LAST_BY_LAST = {
        {}, {0}, {3, 1, 1, 3}, {7, 3, 5, 1, 2, 6, 3, 5, 2},
    };
    /** n 4: only 15 by 2, 12, 14 is 0. */
    private static final int[] ONLY_FIFTEEN_BY = {1, 2, 4, 8, 12, 3, 13, 10, 2, 4, 15, 12, 11, 5, 1, 9};
    /** n 4: only 2, 12, 14 by 15 is 0. */
    private static final int[] ONLY_BY_FIFTEEN = {1, 12, 2, 11, 2, 3, 4, 5, 4, 13, 15, 1, 8, 10, 12, 9};

    public static void main(String[] args) throws IllegalAccessException {
        Cases.runAll(WorldBoundaryTest.class);
    }

    private static CubeWorlds with(int n, int... products) {
        CubeWorlds x = new CubeWorlds();
        Cases.cube(x, 0, n, products);
        return x;
    }

    /** All products of bits are the last number. */
    private static CubeWorlds full(int n) {
        int[] products = new int[n * n];
        Arrays.fill(products, (1 << n) - 1);
        return with(n, products);
    }

    private static void isOfN(String call, CubeWorlds x, int slot, int n) {
        int size = 1 << n;
        Cases.due(call + ": numbers to " + (size - 1), x.product(slot, size - 1, 0), 0);
        Cases.due(call + ": no number " + size, x.product(slot, size, 0), U);
        int last = x.product(slot, 1 << n - 1, 1 << n - 1);
        Cases.due(call + ": bits to " + (n - 1), x.put(slot, n - 1, n - 1, last), last);
        Cases.due(call + ": no bit " + n + " on the left", x.put(slot, n, 0, 0), O);
        Cases.due(call + ": no bit " + n + " on the right", x.put(slot, 0, n, 0), O);
    }

    // ---- promise 1

    static void promise01_constants() {
        Cases.due("UNKNOWN", CubeWorlds.UNKNOWN, -1);
        Cases.due("OUTSIDE", CubeWorlds.OUTSIDE, -2);
        Cases.due("STATE", CubeWorlds.STATE, -3);
        Cases.due("FULL", CubeWorlds.FULL, -4);
        Cases.due("NONE", CubeWorlds.NONE, -9);
    }

    static void promise01_atFirstEachWorldHasOneBitAndOneByOneIsOne() {
        for (int s = 0; s <= 3; s++) {
            CubeWorlds x = new CubeWorlds();
            isOfN("slot " + s, x, s, 1);
            Cases.due("1 by 1", x.product(s, 1, 1), 1);
            Cases.due("0 by 1", x.product(s, 0, 1), 0);
            Cases.due("1 by 0", x.product(s, 1, 0), 0);
            Cases.due("what 1 by 1 was", x.put(s, 0, 0, 0), 1);
        }
    }

    static void promise01_atFirstAllMapsAreFourZeros() {
        CubeWorlds x = new CubeWorlds();
        for (int m = 0; m <= 2; m++) {
            Cases.due("map " + m + " of 15", x.gives(m, 15), 0);
            for (int i = 0; i <= 3; i++) {
                Cases.due("map " + m + ", " + i, x.map(m, i, 15), 0);
            }
        }
    }

    static void promise01_objectsShareNothing() {
        CubeWorlds x = Cases.scene();
        CubeWorlds y = new CubeWorlds();
        isOfN("a new one", y, 3, 1);
        Cases.due("map", y.gives(0, 1), 0);
        y.world(3, 2);
        y.map(0, 0, 9);
        Cases.due("the older one's number", x.product(3, 15, 15), Cases.timesInScene(3, 15, 15));
        Cases.due("the older one's map", x.gives(0, 1), 1);
    }

    static void promise01_call512StillAnswers() {
        CubeWorlds ways = new CubeWorlds();
        ways.field(0, 3);
        CubeWorlds cubes = new CubeWorlds();
        cubes.field(0, 3);
        CubeWorlds bad = new CubeWorlds();
        bad.world(0, 4);
        for (int call = 2; call <= 512; call++) {
            Cases.due("ways, call " + call, ways.ways(0, 0), 147);
            Cases.due("cubes, call " + call, cubes.cubes(2), 12);
            Cases.due("bad, call " + call, bad.bad(0), 120 * 256);
        }
    }

    // ---- promise 2

    static void promise02_n1IsFirstAndN4IsLast() {
        Cases.forEachN(n -> {
            for (int s = 0; s <= 3; s++) {
                CubeWorlds x = new CubeWorlds();
                Cases.due("world(" + s + ", " + n + ")", x.world(s, n), 1 << n);
                isOfN("world(" + s + ", " + n + ")", x, s, n);
            }
        });
    }

    static void promise02_n0AndN5AreOutside() {
        Cases.forEachOutOf(1, 4, n -> {
            Cases.refused("world(0, " + n + ")", O, x -> x.world(0, n));
            Cases.refused("world(3, " + n + ")", O, x -> x.world(3, n));
        });
    }

    static void promise02_slotsBefore0AndAfter3AreUnknown() {
        Cases.forEachNoSlot(s -> Cases.refused("world(" + s + ", 2)", U, x -> x.world(s, 2)));
    }

    static void promise02_unknownSlotComesBeforeOutsideN() {
        Cases.refused("world(4, 0)", U, x -> x.world(4, 0));
        Cases.refused("world(-1, 5)", U, x -> x.world(-1, 5));
    }

    static void promise02_allProductsOfAFullWorldBecome0() {
        Cases.forEachN(n -> {
            CubeWorlds x = full(n);
            x.world(0, n);
            for (int a = 0; a < 1 << n; a++) {
                for (int b = 0; b < 1 << n; b++) {
                    Cases.due("n " + n + ": " + a + " by " + b, x.product(0, a, b), 0);
                }
            }
        });
    }

    static void promise02_allProductsAre0WhicheverCallWentBefore() {
        Cases.Call[] before = {x -> x.field(1, 4), x -> x.turn(1, 3, 3), x -> x.carry(1, 3), x -> x.cubes(2),
            x -> x.world(1, 1)};
        for (Cases.Call call : before) {
            Cases.forEachN(n -> {
                CubeWorlds x = Cases.scene();
                call.on(x);
                x.world(0, n);
                for (int i = 0; i < n; i++) {
                    for (int j = 0; j < n; j++) {
                        Cases.due("n " + n + ": " + i + ", " + j, x.product(0, 1 << i, 1 << j), 0);
                    }
                }
            });
        }
    }

    static void promise02_aSmallerWorldForgetsWhatALargerHad() {
        CubeWorlds x = full(4);
        x.world(0, 2);
        isOfN("n 2 after 4", x, 0, 2);
        Cases.due("1 by 1", x.product(0, 1, 1), 0);
        x.world(0, 4);
        Cases.due("4 by 4", x.product(0, 4, 4), 0);
        Cases.due("15 by 15", x.product(0, 15, 15), 0);
        Cases.due("what 8 by 8 was", x.put(0, 3, 3, 1), 0);
    }

    static void promise02_otherSlotsStay() {
        for (int s = 0; s <= 3; s++) {
            CubeWorlds x = Cases.scene();
            x.world(s, 2);
            for (int other = 0; other <= 3; other++) {
                if (other != s) {
                    isOfN("slot " + other, x, other, other + 1);
                    Cases.due("slot " + other, x.product(other, 1, 1), Cases.timesInScene(other, 1, 1));
                }
            }
        }
    }

    // ---- promise 3

    static void promise03_eachBitFromFirstToLastIsIn() {
        Cases.forEachN(n -> {
            int slot = n - 1;
            int last = (1 << n) - 1;
            for (int i = 0; i < n; i++) {
                for (int j = 0; j < n; j++) {
                    CubeWorlds x = Cases.scene();
                    int was = Cases.cellOfScene(slot, i, j);
                    String call = "put(" + slot + ", " + i + ", " + j + ")";
                    Cases.due(call + " what it was", x.put(slot, i, j, last ^ was), was);
                    Cases.due(call + " what it was then", x.put(slot, i, j, last ^ was), last ^ was);
                    onlyOneCellIsOther(call, x, slot, i, j);
                }
            }
        });
    }

    /** Its product is turned about in all bits. */
    private static void onlyOneCellIsOther(String call, CubeWorlds x, int slot, int i, int j) {
        int last = (2 << slot) - 1;
        for (int a = 0; a <= last; a++) {
            for (int b = 0; b <= last; b++) {
                int more = (a >> i & 1) == 1 && (b >> j & 1) == 1 ? last : 0;
                Cases.due(call + ", " + a + " by " + b, x.product(slot, a, b), Cases.timesInScene(slot, a, b) ^ more);
            }
        }
    }

    static void promise03_v0IsFirstAndTheLastNumberIsLast() {
        Cases.forEachN(n -> {
            int last = (1 << n) - 1;
            CubeWorlds x = Cases.scene();
            x.put(n - 1, 0, 0, 0);
            Cases.due("n " + n + ": v 0", x.product(n - 1, 1, 1), 0);
            Cases.due("n " + n + ": it was 0", x.put(n - 1, 0, 0, last), 0);
            Cases.due("n " + n + ": last v", x.product(n - 1, 1, 1), last);
            Cases.due("n " + n + ": it was the last", x.put(n - 1, 0, 0, 0), last);
        });
    }

    static void promise03_iBefore0AndFromNOnIsOutside() {
        Cases.forEachN(n -> Cases.forEachOutOf(0, n - 1, i ->
            Cases.refused("put(" + (n - 1) + ", " + i + ", 0, 0)", O, x -> x.put(n - 1, i, 0, 0))));
    }

    static void promise03_jBefore0AndFromNOnIsOutside() {
        Cases.forEachN(n -> Cases.forEachOutOf(0, n - 1, j ->
            Cases.refused("put(" + (n - 1) + ", 0, " + j + ", 0)", O, x -> x.put(n - 1, 0, j, 0))));
    }

    static void promise03_vBefore0AndFromTwoToTheNOnIsUnknown() {
        Cases.forEachN(n -> Cases.forEachOutOf(0, (1 << n) - 1, v ->
            Cases.refused("put(" + (n - 1) + ", 0, 0, " + v + ")", U, x -> x.put(n - 1, 0, 0, v))));
    }

    static void promise03_slotsBefore0AndAfter3AreUnknown() {
        Cases.forEachNoSlot(s -> Cases.refused("put(" + s + ", 0, 0, 0)", U, x -> x.put(s, 0, 0, 0)));
    }

    static void promise03_unknownSlotOrVComesBeforeOutsideBits() {
        Cases.refused("slot and i", U, x -> x.put(4, 4, 0, 0));
        Cases.refused("slot and j", U, x -> x.put(-1, 0, -1, 0));
        Cases.refused("slot and v", U, x -> x.put(4, 0, 0, 16));
        Cases.refused("i and v", U, x -> x.put(1, 2, 0, 4));
        Cases.refused("i and v below", U, x -> x.put(1, -1, 0, -1));
        Cases.refused("j and v", U, x -> x.put(1, 0, 2, 4));
        Cases.refused("j and v below", U, x -> x.put(1, 0, -1, -1));
        Cases.refused("i and j", O, x -> x.put(1, 2, 2, 3));
        Cases.refused("all", U, x -> x.put(4, 4, 4, 16));
    }

    static void promise03_bitsAndNumbersOfTheWorldBeforeAreOutAndUnknown() {
        Cases.refusedAfter(x -> x.world(3, 2), "i 2", O, x -> x.put(3, 2, 0, 0));
        Cases.refusedAfter(x -> x.world(3, 2), "j 3", O, x -> x.put(3, 0, 3, 0));
        Cases.refusedAfter(x -> x.world(3, 2), "v 4", U, x -> x.put(3, 0, 0, 4));
    }

    // ---- promise 4

    static void promise04_n1IsFirstAndN4IsLast() {
        Cases.forEachN(n -> {
            for (int s = 0; s <= 3; s++) {
                CubeWorlds x = new CubeWorlds();
                Cases.due("field(" + s + ", " + n + ")", x.field(s, n), 1 << n);
                isOfN("field(" + s + ", " + n + ")", x, s, n);
            }
        });
    }

    /** By hand: at n 2, 4 less 7 is 3; at n 3, 8 less 11 is 3, 16 less 22 is 6; at n 4, 64 less 76 is 12. */
    static void promise04_productsOfBitsAreLessThePolynomialAsOftenAsCanBe() {
        int[][] cells = {
            {}, {1}, {1, 2, 2, 3}, {1, 2, 4, 2, 4, 3, 4, 3, 6},
            {1, 2, 4, 8, 2, 4, 8, 3, 4, 8, 3, 6, 8, 3, 6, 12},
        };
        Cases.forEachN(n -> {
            CubeWorlds x = Cases.scene();
            x.turn(2, 3, 1);
            x.field(1, n);
            for (int a = 0; a < 1 << n; a++) {
                for (int b = 0; b < 1 << n; b++) {
                    Cases.due("n " + n + ": " + a + " by " + b, x.product(1, a, b), Cases.times(n, cells[n], a, b));
                }
            }
        });
    }

    static void promise04_n0AndN5AreOutside() {
        Cases.forEachOutOf(1, 4, n -> {
            Cases.refused("field(0, " + n + ")", O, x -> x.field(0, n));
            Cases.refused("field(3, " + n + ")", O, x -> x.field(3, n));
        });
    }

    static void promise04_slotsBefore0AndAfter3AreUnknown() {
        Cases.forEachNoSlot(s -> Cases.refused("field(" + s + ", 2)", U, x -> x.field(s, 2)));
    }

    static void promise04_unknownSlotComesBeforeOutsideN() {
        Cases.refused("field(4, 5)", U, x -> x.field(4, 5));
        Cases.refused("field(-1, 0)", U, x -> x.field(-1, 0));
    }

    static void promise04_otherSlotsStay() {
        CubeWorlds x = Cases.scene();
        x.field(2, 4);
        isOfN("slot 1", x, 1, 2);
        Cases.due("slot 1", x.product(1, 2, 1), 3);
        Cases.due("slot 3", x.product(3, 15, 15), Cases.timesInScene(3, 15, 15));
    }

    // ---- promise 5

    static void promise05_eachNumberFrom0ToTheLastIsIn() {
        Cases.forEachN(n -> {
            CubeWorlds x = Cases.scene();
            for (int a = 0; a < 1 << n; a++) {
                for (int b = 0; b < 1 << n; b++) {
                    String call = "product(" + (n - 1) + ", " + a + ", " + b + ")";
                    Cases.due(call, x.product(n - 1, a, b), Cases.timesInScene(n - 1, a, b));
                }
            }
        });
    }

    static void promise05_askingChangesNothing() {
        Cases.asks("0 by 0", 0, x -> x.product(0, 0, 0));
        Cases.asks("15 by 15", Cases.timesInScene(3, 15, 15), x -> x.product(3, 15, 15));
    }

    static void promise05_by0EvenAFullWorldIs0() {
        Cases.forEachN(n -> {
            CubeWorlds x = full(n);
            int last = (1 << n) - 1;
            Cases.due("0 by 0", x.product(0, 0, 0), 0);
            Cases.due("last by 0", x.product(0, last, 0), 0);
            Cases.due("0 by last", x.product(0, 0, last), 0);
        });
    }

    /** Last by last of a full world adds the last number n by n times. */
    static void promise05_theSumIsBitByBitAndCarriesNothing() {
        Cases.forEachN(n -> {
            int last = (1 << n) - 1;
            Cases.due("n " + n, full(n).product(0, last, last), n % 2 == 1 ? last : 0);
        });
        Cases.due("3 and 1", with(2, 3, 1, 0, 0).product(0, 1, 3), 2);
    }

    static void promise05_xBefore0AndFromTwoToTheNOnIsUnknown() {
        Cases.forEachN(n -> Cases.forEachOutOf(0, (1 << n) - 1, a ->
            Cases.refused("product(" + (n - 1) + ", " + a + ", 0)", U, x -> x.product(n - 1, a, 0))));
    }

    static void promise05_yBefore0AndFromTwoToTheNOnIsUnknown() {
        Cases.forEachN(n -> Cases.forEachOutOf(0, (1 << n) - 1, b ->
            Cases.refused("product(" + (n - 1) + ", 1, " + b + ")", U, x -> x.product(n - 1, 1, b))));
    }

    static void promise05_whatALargerWorldLeftDoesNotCount() {
        Cases.whatALargerWorldLeftDoesNotCount("product(0, 1, 1)", x -> x.product(0, 1, 1));
        Cases.whatALargerWorldLeftDoesNotCount("product(0, 2, 0)", x -> x.product(0, 2, 0));
    }

    static void promise05_slotsBefore0AndAfter3AreUnknown() {
        Cases.forEachNoSlot(s -> Cases.refused("product(" + s + ", 1, 1)", U, x -> x.product(s, 1, 1)));
    }

    static void promise05_twoUnknownsAreUnknown() {
        Cases.refused("slot and x", U, x -> x.product(4, 16, 0));
        Cases.refused("slot and y", U, x -> x.product(-1, 0, -1));
        Cases.refused("x and y", U, x -> x.product(1, 4, -1));
    }

    static void promise05_numbersOfTheWorldBeforeAreUnknown() {
        Cases.refusedAfter(x -> x.field(3, 1), "x 15", U, x -> x.product(3, 15, 0));
        Cases.refusedAfter(x -> x.turn(3, 0, 0), "y 2", U, x -> x.product(3, 0, 2));
    }

    // ---- promise 6

    static void promise06_productsWith0DoNotCount() {
        for (int s = 0; s <= 3; s++) {
            Cases.due("slot " + s, new CubeWorlds().divides(s), 1);
        }
        Cases.asks("n 2", 1, x -> x.divides(1));
        Cases.asks("n 4", 1, x -> x.divides(3));
        Cases.due("n 3", fieldOf(3).divides(0), 1);
    }

    private static CubeWorlds fieldOf(int n) {
        CubeWorlds x = new CubeWorlds();
        x.field(0, n);
        return x;
    }

    static void promise06_firstByFirstBeing0IsEnough() {
        Cases.forEachN(n -> {
            CubeWorlds x = fieldOf(n);
            x.put(0, 0, 0, 0);
            Cases.due("n " + n, x.divides(0), 0);
        });
    }

    static void promise06_lastByLastBeing0IsEnough() {
        for (int n = 1; n <= 3; n++) {
            Cases.due("n " + n, with(n, ONLY_LAST_BY_LAST[n]).divides(0), 0);
        }
        Cases.due("n 4, only 15 by some", with(4, ONLY_FIFTEEN_BY).divides(0), 0);
        Cases.due("n 4, only some by 15", with(4, ONLY_BY_FIFTEEN).divides(0), 0);
    }

    static void promise06_allProducts0DivideNot() {
        Cases.forEachN(n -> {
            CubeWorlds x = new CubeWorlds();
            x.world(0, n);
            Cases.due("n " + n, x.divides(0), 0);
        });
    }

    static void promise06_whatALargerWorldLeftDoesNotCount() {
        Cases.whatALargerWorldLeftDoesNotCount("divides(0)", x -> x.divides(0));
    }

    static void promise06_slotsBefore0AndAfter3AreUnknown() {
        Cases.forEachNoSlot(s -> Cases.refused("divides(" + s + ")", U, x -> x.divides(s)));
    }

    // ---- promise 7

    static void promise07_noneIfItDivides() {
        for (int s : new int[] {0, 1, 3}) {
            Cases.asks("slot " + s, NONE, x -> x.broken(s, false));
            Cases.asks("slot " + s + ", second", NONE, x -> x.broken(s, true));
        }
        Cases.due("n 3", fieldOf(3).broken(0, false), NONE);
        Cases.due("n 3, second", fieldOf(3).broken(0, true), NONE);
    }

    static void promise07_leastIs1By1() {
        Cases.forEachN(n -> {
            CubeWorlds x = new CubeWorlds();
            x.world(0, n);
            Cases.due("n " + n, x.broken(0, false), 1);
            Cases.due("n " + n + ", second", x.broken(0, true), 1);
        });
    }

    static void promise07_greatestIsLastByLast() {
        for (int n = 1; n <= 3; n++) {
            CubeWorlds x = with(n, ONLY_LAST_BY_LAST[n]);
            Cases.due("n " + n, x.broken(0, false), (1 << n) - 1);
            Cases.due("n " + n + ", second", x.broken(0, true), (1 << n) - 1);
        }
        Cases.due("n 4, x", with(4, ONLY_FIFTEEN_BY).broken(0, false), 15);
        Cases.due("n 4, its y", with(4, ONLY_FIFTEEN_BY).broken(0, true), 2);
        Cases.due("n 4, x before 15", with(4, ONLY_BY_FIFTEEN).broken(0, false), 2);
        Cases.due("n 4, y", with(4, ONLY_BY_FIFTEEN).broken(0, true), 15);
    }

    /** 1 by 3 is 0 and 2 by 1 is 0: the least x has not the least y, and y by x has another least. */
    static void promise07_secondIsOfTheLeastXAlone() {
        CubeWorlds x = with(2, 1, 1, 0, 2);
        Cases.due("x", x.broken(0, false), 1);
        Cases.due("y", x.broken(0, true), 3);
    }

    /** 2 by 1 and 3 by 3 are 0, nothing of 1 is. */
    static void promise07_xIsOnTheLeft() {
        CubeWorlds x = with(2, 1, 2, 0, 1);
        Cases.due("x", x.broken(0, false), 2);
        Cases.due("y", x.broken(0, true), 1);
    }

    static void promise07_whatALargerWorldLeftDoesNotCount() {
        Cases.whatALargerWorldLeftDoesNotCount("broken(0, false)", x -> x.broken(0, false));
        Cases.whatALargerWorldLeftDoesNotCount("broken(0, true)", x -> x.broken(0, true));
    }

    static void promise07_slotsBefore0AndAfter3AreUnknown() {
        Cases.forEachNoSlot(s -> {
            Cases.refused("broken(" + s + ", false)", U, x -> x.broken(s, false));
            Cases.refused("broken(" + s + ", true)", U, x -> x.broken(s, true));
        });
    }

    // ---- promise 8

    static void promise08_oneMayBeAnyNumberButZero() {
        Cases.forEachN(n -> {
            for (int e = 1; e < 1 << n; e++) {
                CubeWorlds x = new CubeWorlds();
                x.field(0, n);
                withOne(x, n, e);
                Cases.due("n " + n + ", one " + e, x.one(0), e);
            }
        });
    }

    /** A field's numbers named anew, so that e is its 1. */
    private static void withOne(CubeWorlds x, int n, int e) {
        int[] name = new int[n];
        name[0] = e;
        int low = Integer.numberOfTrailingZeros(e);
        for (int i = 1, bit = 0; i < n; i++, bit++) {
            bit += bit == low ? 1 : 0;
            name[i] = 1 << bit;
        }
        Cases.maps(x, name);
        x.carry(0, 0);
    }

    static void promise08_noneIfOnOneSideOnly() {
        Cases.due("1 by x is x", with(2, 1, 2, 0, 0).one(0), NONE);
        Cases.due("x by 1 is x", with(2, 1, 0, 2, 0).one(0), NONE);
        Cases.due("3 by x is x", with(2, 1, 0, 0, 2).one(0), 3);
    }

    static void promise08_noneIfOneNumberAloneIsOther() {
        Cases.due("1 by 8", with(4, 1, 2, 4, 9, 2, 0, 0, 0, 4, 0, 0, 0, 8, 0, 0, 0).one(0), NONE);
        Cases.due("8 by 1", with(4, 1, 2, 4, 8, 2, 0, 0, 0, 4, 0, 0, 0, 9, 0, 0, 0).one(0), NONE);
        Cases.due("1 by 1", with(2, 3, 2, 2, 1).one(0), NONE);
        Cases.due("neither", with(4, 1, 2, 4, 8, 2, 0, 0, 0, 4, 0, 0, 0, 8, 0, 0, 0).one(0), 1);
    }

    static void promise08_noneIfAllProductsAre0() {
        Cases.forEachN(n -> {
            CubeWorlds x = new CubeWorlds();
            x.world(0, n);
            Cases.due("n " + n, x.one(0), NONE);
        });
    }

    static void promise08_askingChangesNothing() {
        int[] want = {1, NONE, NONE, NONE};
        for (int s = 0; s <= 3; s++) {
            int slot = s;
            Cases.asks("one(" + s + ")", want[s], x -> x.one(slot));
        }
    }

    static void promise08_whatALargerWorldLeftDoesNotCount() {
        Cases.whatALargerWorldLeftDoesNotCount("one(0)", x -> x.one(0));
    }

    static void promise08_slotsBefore0AndAfter3AreUnknown() {
        Cases.forEachNoSlot(s -> Cases.refused("one(" + s + ")", U, x -> x.one(s)));
    }

    // ---- promise 9

    /** 2 by 1, 2, 3 is 3, 1, 2, and 1, 2, 3 by 2 is 2, 1, 3. */
    static void promise09_leftIsXByYAndElseYByX() {
        int[] left = {0, 2, 3, 1};
        int[] right = {0, 2, 1, 3};
        for (int z = 0; z <= 3; z++) {
            int due = z;
            Cases.asks("2 by y is " + z, left[z], x -> x.quotient(1, 2, due, true));
            Cases.asks("y by 2 is " + z, right[z], x -> x.quotient(1, 2, due, false));
        }
    }

    static void promise09_yMayBe0() {
        Cases.due("1 by y is 0", new CubeWorlds().quotient(0, 1, 0, true), 0);
        Cases.due("y by 1 is 0", new CubeWorlds().quotient(0, 1, 0, false), 0);
    }

    static void promise09_yMayBeTheLast() {
        Cases.forEachN(n -> {
            CubeWorlds x = fieldOf(n);
            Cases.due("n " + n, x.quotient(0, 1, (1 << n) - 1, true), (1 << n) - 1);
            Cases.due("n " + n + ", right", x.quotient(0, 1, (1 << n) - 1, false), (1 << n) - 1);
        });
    }

    static void promise09_noneIfAllYDo() {
        for (int s = 0; s <= 3; s++) {
            int slot = s;
            Cases.asks("0 by y is 0", NONE, x -> x.quotient(slot, 0, 0, true));
            Cases.asks("y by 0 is 0", NONE, x -> x.quotient(slot, 0, 0, false));
        }
    }

    /** 1 by 0 and by 3 is 0, 1 by 1 and by 2 is 1; on the right only 1 and 2 by 1 is 1. */
    static void promise09_noneIfJustTwoYDo() {
        CubeWorlds x = with(2, 1, 1, 1, 2);
        Cases.due("1 by y is 0", x.quotient(0, 1, 0, true), NONE);
        Cases.due("1 by y is 1", x.quotient(0, 1, 1, true), NONE);
        Cases.due("y by 1 is 0", x.quotient(0, 1, 0, false), NONE);
        Cases.due("y by 1 is 1", x.quotient(0, 1, 1, false), NONE);
        Cases.due("2 by y is 3", x.quotient(0, 2, 3, true), 3);
    }

    static void promise09_noneIfNoYDoes() {
        for (int s = 0; s <= 3; s++) {
            int slot = s;
            Cases.asks("0 by y is last", NONE, x -> x.quotient(slot, 0, (2 << slot) - 1, true));
            Cases.asks("y by 0 is 1", NONE, x -> x.quotient(slot, 0, 1, false));
        }
        Cases.due("1 by y is 2", with(2, 1, 1, 1, 2).quotient(0, 1, 2, true), NONE);
    }

    static void promise09_xBefore0AndFromTwoToTheNOnIsUnknown() {
        Cases.forEachN(n -> Cases.forEachOutOf(0, (1 << n) - 1, a -> {
            Cases.refused("quotient(" + (n - 1) + ", " + a + ", 1)", U, x -> x.quotient(n - 1, a, 1, true));
            Cases.refused("quotient(" + (n - 1) + ", " + a + ", 0)", U, x -> x.quotient(n - 1, a, 0, false));
        }));
    }

    static void promise09_zBefore0AndFromTwoToTheNOnIsUnknown() {
        Cases.forEachN(n -> Cases.forEachOutOf(0, (1 << n) - 1, z -> {
            Cases.refused("quotient(" + (n - 1) + ", 1, " + z + ")", U, x -> x.quotient(n - 1, 1, z, true));
            Cases.refused("quotient(" + (n - 1) + ", 0, " + z + ")", U, x -> x.quotient(n - 1, 0, z, false));
        }));
    }

    static void promise09_whatALargerWorldLeftDoesNotCount() {
        Cases.whatALargerWorldLeftDoesNotCount("quotient(0, 1, 1, true)", x -> x.quotient(0, 1, 1, true));
        Cases.whatALargerWorldLeftDoesNotCount("quotient(0, 1, 1, false)", x -> x.quotient(0, 1, 1, false));
        Cases.whatALargerWorldLeftDoesNotCount("quotient(0, 1, 0, true)", x -> x.quotient(0, 1, 0, true));
        Cases.whatALargerWorldLeftDoesNotCount("quotient(0, 0, 1, true)", x -> x.quotient(0, 0, 1, true));
    }

    static void promise09_slotsBefore0AndAfter3AreUnknown() {
        Cases.forEachNoSlot(s -> {
            Cases.refused("quotient(" + s + ", 1, 1, true)", U, x -> x.quotient(s, 1, 1, true));
            Cases.refused("quotient(" + s + ", 1, 1, false)", U, x -> x.quotient(s, 1, 1, false));
        });
    }

    static void promise09_twoUnknownsAreUnknown() {
        Cases.refused("slot and x", U, x -> x.quotient(4, 16, 0, true));
        Cases.refused("slot and z", U, x -> x.quotient(-1, 0, -1, false));
        Cases.refused("x and z", U, x -> x.quotient(1, 4, 4, true));
    }

    // ---- promise 10

    /** Where bit k of 2 to the i by 2 to the j comes to stand, for each turn. */
    private static int[] comesTo(int t, int i, int j, int k) {
        int[][] all = {{i, j, k}, {i, k, j}, {j, i, k}, {k, i, j}, {j, k, i}, {k, j, i}};
        return all[t];
    }

    static void promise10_t0IsFirstAndT5IsLastAndEachBitComesToItsPlace() {
        Cases.forEachN(n -> {
            for (int code = 0; code < 6 * n * n * n; code++) {
                int t = code % 6;
                int i = code / 6 % n;
                int j = code / 6 / n % n;
                int k = code / 6 / n / n;
                CubeWorlds x = new CubeWorlds();
                x.world(0, n);
                x.put(0, i, j, 1 << k);
                Cases.due("turn(1, 0, " + t + ")", x.turn(1, 0, t), 1);
                hasOneBit("t " + t + " of " + i + j + k, x, n, comesTo(t, i, j, k));
            }
        });
    }

    private static void hasOneBit(String call, CubeWorlds x, int n, int[] place) {
        isOfN(call, x, 1, n);
        for (int i = 0; i < n; i++) {
            for (int j = 0; j < n; j++) {
                int want = i == place[0] && j == place[1] ? 1 << place[2] : 0;
                Cases.due(call + ": " + i + ", " + j, x.product(1, 1 << i, 1 << j), want);
            }
        }
    }

    static void promise10_aSlotTurnedOntoItselfIsAsTurnedOntoAnother() {
        for (int s = 0; s <= 3; s++) {
            for (int t = 0; t <= 5; t++) {
                CubeWorlds x = Cases.scene();
                CubeWorlds y = Cases.scene();
                int to = (s + 1) % 4;
                Cases.due("onto itself", x.turn(s, s, t), 1);
                Cases.due("onto another", y.turn(to, s, t), 1);
                for (int code = 0; code < (s + 1) * (s + 1); code++) {
                    int a = 1 << code / (s + 1);
                    int b = 1 << code % (s + 1);
                    Cases.due("slot " + s + ", t " + t, x.product(s, a, b), y.product(to, a, b));
                    Cases.due("what is turned stays", y.product(s, a, b), Cases.timesInScene(s, a, b));
                }
            }
        }
    }

    static void promise10_toGetsNOfTheSlotWhetherItHadMoreOrLess() {
        for (int to = 0; to <= 3; to++) {
            for (int s = 0; s <= 3; s++) {
                CubeWorlds x = Cases.scene();
                Cases.due("turn(" + to + ", " + s + ", 0)", x.turn(to, s, 0), 1);
                isOfN("slot " + s + " to " + to, x, to, s + 1);
                int last = (2 << s) - 1;
                Cases.due("last by last", x.product(to, last, last), Cases.timesInScene(s, last, last));
                Cases.due("last by 1", x.product(to, last, 1), Cases.timesInScene(s, last, 1));
            }
        }
    }

    static void promise10_tBefore0AndAfter5IsOutside() {
        Cases.forEachOutOf(0, 5, t -> {
            Cases.refused("turn(0, 1, " + t + ")", O, x -> x.turn(0, 1, t));
            Cases.refused("turn(2, 2, " + t + ")", O, x -> x.turn(2, 2, t));
        });
    }

    static void promise10_whatALargerWorldLeftDoesNotCount() {
        Cases.whatALargerWorldLeftDoesNotCount("turn(1, 0, 3) + product(1, 1, 1)", x -> x.turn(1, 0, 3) + x.product(1, 1, 1));
        Cases.whatALargerWorldLeftDoesNotCount("turn(1, 0, 1) + product(1, 2, 1)", x -> x.turn(1, 0, 1) + x.product(1, 2, 1));
    }

    static void promise10_slotsBefore0AndAfter3AreUnknown() {
        Cases.forEachNoSlot(s -> {
            Cases.refused("turn(" + s + ", 1, 1)", U, x -> x.turn(s, 1, 1));
            Cases.refused("turn(1, " + s + ", 1)", U, x -> x.turn(1, s, 1));
        });
    }

    static void promise10_unknownSlotComesBeforeOutsideT() {
        Cases.refused("to and t", U, x -> x.turn(4, 1, 6));
        Cases.refused("slot and t", U, x -> x.turn(1, -1, -1));
        Cases.refused("to and slot", U, x -> x.turn(-1, 4, 1));
        Cases.refused("all", U, x -> x.turn(4, 4, 6));
    }

    // ---- promise 11

    /** Rows: a number, the four products of bits of n 2, and whether it joins in ways 0, 1, 2, 3. */
    private static final int[][] WHO_JOINS = {
        {3, 0, 0, 1, 0, 0, 0, 0, 0},
        {2, 0, 1, 1, 0, 0, 0, 0, 0},
        {2, 0, 0, 1, 0, 0, 0, 1, 0},
        {2, 0, 0, 2, 2, 0, 1, 0, 0},
        {1, 0, 1, 1, 0, 0, 1, 0, 0},
        {2, 0, 0, 2, 0, 0, 1, 1, 0},
        {1, 0, 0, 2, 0, 1, 0, 0, 0},
        {2, 1, 0, 1, 2, 1, 0, 1, 0},
        {1, 0, 0, 1, 0, 1, 1, 0, 0},
        {1, 0, 0, 1, 2, 1, 1, 1, 0},
        {1, 1, 2, 2, 3, 1, 1, 1, 1},
        {3, 1, 2, 2, 1, 1, 1, 1, 1},
    };

    static void promise11_eachWayByItselfAndTheCentreNeedsAll() {
        for (int[] row : WHO_JOINS) {
            CubeWorlds x = with(2, row[1], row[2], row[3], row[4]);
            for (int way = 0; way <= 3; way++) {
                Cases.due(Arrays.toString(row) + " way " + way, x.joins(0, row[0], way), row[5 + way]);
            }
        }
    }

    static void promise11_0JoinsInEveryWorld() {
        for (int s = 0; s <= 3; s++) {
            for (int way = 0; way <= 3; way++) {
                int slot = s;
                int here = way;
                Cases.asks("joins(" + s + ", 0, " + way + ")", 1, x -> x.joins(slot, 0, here));
            }
        }
    }

    static void promise11_theLastNumberIsIn() {
        Cases.forEachN(n -> {
            for (int way = 0; way <= 3; way++) {
                Cases.due("n " + n + ", way " + way, fieldOf(n).joins(0, (1 << n) - 1, way), 1);
            }
        });
        Cases.asks("15 of slot 3", 0, x -> x.joins(3, 15, 0));
    }

    /** A field of 16 but for 8 by 8: 1 is its one still, and 2 meets y, z of 8 and 4 first. */
    static void promise11_oneFailingPairIsEnough() {
        CubeWorlds x = fieldOf(4);
        x.put(0, 3, 3, 13);
        for (int way = 0; way <= 3; way++) {
            Cases.due("1, way " + way, x.joins(0, 1, way), 1);
            Cases.due("2, way " + way, x.joins(0, 2, way), 0);
        }
    }

    static void promise11_wayBefore0AndAfter3IsOutside() {
        Cases.forEachOutOf(0, 3, way -> {
            Cases.refused("joins(0, 0, " + way + ")", O, x -> x.joins(0, 0, way));
            Cases.refused("joins(3, 15, " + way + ")", O, x -> x.joins(3, 15, way));
        });
    }

    static void promise11_xBefore0AndFromTwoToTheNOnIsUnknown() {
        Cases.forEachN(n -> Cases.forEachOutOf(0, (1 << n) - 1, a -> {
            Cases.refused("joins(" + (n - 1) + ", " + a + ", 0)", U, x -> x.joins(n - 1, a, 0));
            Cases.refused("joins(" + (n - 1) + ", " + a + ", 3)", U, x -> x.joins(n - 1, a, 3));
        }));
    }

    static void promise11_whatALargerWorldLeftDoesNotCount() {
        Cases.whatALargerWorldLeftDoesNotCount("joins(0, 1, 0)", x -> x.joins(0, 1, 0));
        Cases.whatALargerWorldLeftDoesNotCount("joins(0, 1, 1)", x -> x.joins(0, 1, 1));
        Cases.whatALargerWorldLeftDoesNotCount("joins(0, 1, 2)", x -> x.joins(0, 1, 2));
        Cases.whatALargerWorldLeftDoesNotCount("joins(0, 1, 3)", x -> x.joins(0, 1, 3));
    }

    static void promise11_slotsBefore0AndAfter3AreUnknown() {
        Cases.forEachNoSlot(s -> Cases.refused("joins(" + s + ", 0, 0)", U, x -> x.joins(s, 0, 0)));
    }

    static void promise11_unknownSlotOrXComesBeforeOutsideWay() {
        Cases.refused("slot and way", U, x -> x.joins(4, 0, 4));
        Cases.refused("x and way", U, x -> x.joins(1, 4, 4));
        Cases.refused("x and way, below", U, x -> x.joins(1, -1, -1));
        Cases.refused("slot and x", U, x -> x.joins(-1, 16, 0));
        Cases.refused("all", U, x -> x.joins(4, 16, 4));
    }

    // ---- promise 12

    static void promise12_allNumbersDoIfAllProductsAre0() {
        Cases.forEachN(n -> {
            for (int way = 0; way <= 3; way++) {
                CubeWorlds x = new CubeWorlds();
                x.world(0, n);
                Cases.due("n " + n + ", way " + way, x.many(0, way), 1 << n);
                x.field(0, n);
                Cases.due("field " + n + ", way " + way, x.many(0, way), 1 << n);
            }
        });
    }

    static void promise12_0AloneIsTheFewest() {
        for (int way = 0; way <= 3; way++) {
            int here = way;
            Cases.asks("n 4, way " + way, 1, x -> x.many(3, here));
        }
    }

    /** Of n 2 by rows, the four products of bits, and how many join in ways 0, 1, 2, 3. */
    static void promise12_eachWayAndTheCentreAreCountedApart() {
        int[][] rows = {
            {0, 0, 2, 1, 2, 1, 1, 1},
            {0, 1, 1, 0, 1, 2, 1, 1},
            {0, 1, 2, 0, 1, 1, 2, 1},
            {0, 1, 2, 1, 1, 1, 1, 1},
            {0, 0, 1, 0, 2, 2, 2, 1},
            {1, 2, 0, 0, 4, 4, 4, 1},
        };
        for (int[] row : rows) {
            CubeWorlds x = with(2, row[0], row[1], row[2], row[3]);
            for (int way = 0; way <= 3; way++) {
                Cases.due(Arrays.toString(row) + " way " + way, x.many(0, way), row[4 + way]);
            }
        }
    }

    static void promise12_wayBefore0AndAfter3IsOutside() {
        Cases.forEachOutOf(0, 3, way -> {
            Cases.refused("many(0, " + way + ")", O, x -> x.many(0, way));
            Cases.refused("many(3, " + way + ")", O, x -> x.many(3, way));
        });
    }

    static void promise12_whatALargerWorldLeftDoesNotCount() {
        Cases.whatALargerWorldLeftDoesNotCount("many(0, 0)", x -> x.many(0, 0));
        Cases.whatALargerWorldLeftDoesNotCount("many(0, 1)", x -> x.many(0, 1));
        Cases.whatALargerWorldLeftDoesNotCount("many(0, 2)", x -> x.many(0, 2));
        Cases.whatALargerWorldLeftDoesNotCount("many(0, 3)", x -> x.many(0, 3));
    }

    static void promise12_slotsBefore0AndAfter3AreUnknown() {
        Cases.forEachNoSlot(s -> Cases.refused("many(" + s + ", 3)", U, x -> x.many(s, 3)));
    }

    static void promise12_unknownSlotComesBeforeOutsideWay() {
        Cases.refused("many(4, 4)", U, x -> x.many(4, 4));
        Cases.refused("many(-1, -1)", U, x -> x.many(-1, -1));
    }

    // ---- promise 13

    static void promise13_noneAreUnlikeInAWorldThatTurnsAbout() {
        Cases.forEachN(n -> Cases.due("field " + n, fieldOf(n).unlike(0), 0));
        Cases.forEachN(n -> Cases.due("full " + n, full(n).unlike(0), 0));
        Cases.asks("n 1", 0, x -> x.unlike(0));
    }

    static void promise13_pairsAreCountedInBothOrders() {
        Cases.due("1, 2, 3 with each other", with(2, 0, 1, 0, 0).unlike(0), 6);
        Cases.asks("n 2", 6, x -> x.unlike(1));
    }

    /** Each number turns about with 0 and itself alone. */
    static void promise13_mostIsAllButThoseWith0AndWithItself() {
        Cases.asks("n 3", 42, x -> x.unlike(2));
        Cases.due("n 4", with(4, 0, 13, 4, 6, 0, 0, 11, 2, 0, 0, 0, 14, 0, 0, 0, 0).unlike(0), 210);
    }

    static void promise13_whatALargerWorldLeftDoesNotCount() {
        Cases.whatALargerWorldLeftDoesNotCount("unlike(0)", x -> x.unlike(0));
    }

    static void promise13_slotsBefore0AndAfter3AreUnknown() {
        Cases.forEachNoSlot(s -> Cases.refused("unlike(" + s + ")", U, x -> x.unlike(s)));
    }
}
