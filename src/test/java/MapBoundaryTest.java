/** Promises 14 to 19, each sentence that names a boundary: what is in, what is out, which refusal comes first. */
public final class MapBoundaryTest {
    private static final int U = Cases.U, O = Cases.O, S = Cases.S;

    public static void main(String[] args) throws IllegalAccessException {
        Cases.runAll(MapBoundaryTest.class);
    }

    private static CubeWorlds withMap(int... numbers) {
        CubeWorlds x = new CubeWorlds();
        Cases.map(x, 0, numbers);
        return x;
    }

    private static CubeWorlds fields(int a, int b) {
        CubeWorlds x = new CubeWorlds();
        x.field(0, a);
        x.field(1, b);
        Cases.maps(x, 1, 2, 4, 8);
        return x;
    }

    private static void forEachNoMap(Cases.Case c) {
        Cases.forEachOutOf(0, 2, c);
    }

    // ---- promise 14

    static void promise14_eachMapAndEachPlaceIsIn() {
        for (int m = 0; m <= 2; m++) {
            for (int i = 0; i <= 3; i++) {
                CubeWorlds x = Cases.scene();
                int was = Cases.mapOfScene(m, i);
                Cases.due("map(" + m + ", " + i + ") was", x.map(m, i, 15 - was), was);
                for (int other = 0; other <= 2; other++) {
                    for (int j = 0; j <= 3; j++) {
                        int due = Cases.mapOfScene(other, j);
                        due = other == m && j == i ? 15 - due : due;
                        Cases.due("map " + other + " of bit " + j, x.gives(other, 1 << j), due);
                    }
                }
            }
        }
    }

    static void promise14_v0IsFirstAndV15IsLast() {
        CubeWorlds x = new CubeWorlds();
        for (int v = 15; v >= 0; v--) {
            Cases.due("v " + v, x.map(1, 2, v), v == 15 ? 0 : v + 1);
            Cases.due("it gives " + v, x.gives(1, 4), v);
        }
    }

    static void promise14_mapsBefore0AndAfter2AreUnknown() {
        forEachNoMap(m -> Cases.refused("map(" + m + ", 0, 4)", U, x -> x.map(m, 0, 4)));
    }

    static void promise14_iBefore0AndAfter3IsOutside() {
        Cases.forEachOutOf(0, 3, i -> {
            Cases.refused("map(0, " + i + ", 4)", O, x -> x.map(0, i, 4));
            Cases.refused("map(2, " + i + ", 4)", O, x -> x.map(2, i, 4));
        });
    }

    static void promise14_vBefore0AndAfter15IsOutside() {
        Cases.forEachOutOf(0, 15, v -> {
            Cases.refused("map(0, 0, " + v + ")", O, x -> x.map(0, 0, v));
            Cases.refused("map(2, 3, " + v + ")", O, x -> x.map(2, 3, v));
        });
    }

    static void promise14_unknownMapComesBeforeOutside() {
        Cases.refused("map and i", U, x -> x.map(3, 4, 0));
        Cases.refused("map and v", U, x -> x.map(-1, 0, -1));
        Cases.refused("i and v", O, x -> x.map(0, 4, 16));
        Cases.refused("all", U, x -> x.map(3, -1, 16));
    }

    // ---- promise 15

    static void promise15_x0IsFirstAndX15IsLast() {
        for (int m = 0; m <= 2; m++) {
            for (int v = 0; v <= 15; v++) {
                int sum = 0;
                for (int i = 0; i <= 3; i++) {
                    sum ^= (v >> i & 1) * Cases.mapOfScene(m, i);
                }
                int map = m;
                int of = v;
                Cases.asks("gives(" + m + ", " + v + ")", sum, x -> x.gives(map, of));
            }
        }
    }

    /** Worlds have nothing to do with it: 15 is in though no world has it. */
    static void promise15_xMayBeNoNumberOfAnyWorld() {
        Cases.due("15", withMap(1, 2, 4, 8).gives(0, 15), 15);
        Cases.due("equal numbers take each other away", withMap(9, 9, 9, 9).gives(0, 15), 0);
    }

    static void promise15_mapsBefore0AndAfter2AreUnknown() {
        forEachNoMap(m -> Cases.refused("gives(" + m + ", 1)", U, x -> x.gives(m, 1)));
    }

    static void promise15_xBefore0AndAfter15IsOutside() {
        Cases.forEachOutOf(0, 15, v -> {
            Cases.refused("gives(0, " + v + ")", O, x -> x.gives(0, v));
            Cases.refused("gives(2, " + v + ")", O, x -> x.gives(2, v));
        });
    }

    static void promise15_unknownMapComesBeforeOutsideX() {
        Cases.refused("gives(3, 16)", U, x -> x.gives(3, 16));
        Cases.refused("gives(-1, -1)", U, x -> x.gives(-1, -1));
    }

    // ---- promise 16

    static void promise16_n1IsFirstAndN4IsLast() {
        int[][] want = {{1, 1, 1, 1}, {0, 1, 1, 1}, {1, 1, 1, 1}};
        for (int m = 0; m <= 2; m++) {
            for (int n = 1; n <= 4; n++) {
                int map = m;
                int bits = n;
                Cases.asks("fits(" + m + ", " + n + ")", want[m][n - 1], x -> x.fits(map, bits));
            }
        }
    }

    static void promise16_fourZerosFitNothing() {
        Cases.forEachN(n -> Cases.due("n " + n, new CubeWorlds().fits(0, n), 0));
    }

    static void promise16_anyNumberThatIsNoneOfNSpoilsIt() {
        Cases.due("2 at n 1", withMap(2, 1, 4, 8).fits(0, 1), 0);
        Cases.due("3 at n 1", withMap(3, 1, 4, 8).fits(0, 1), 0);
        Cases.due("4 at n 2", withMap(1, 4, 2, 8).fits(0, 2), 0);
        Cases.due("7 at n 2", withMap(5, 2, 4, 8).fits(0, 2), 0);
        Cases.due("8 at n 3", withMap(1, 2, 8, 4).fits(0, 3), 0);
        Cases.due("15 at n 3", withMap(1, 2, 15, 4).fits(0, 3), 0);
        Cases.due("15 at n 4", withMap(1, 2, 15, 4).fits(0, 4), 1);
    }

    static void promise16_aNumberGivenTwiceSpoilsIt() {
        Cases.due("0 of 1", withMap(0, 1, 2, 4).fits(0, 1), 0);
        Cases.due("1 of 1 and 2", withMap(1, 1, 2, 4).fits(0, 2), 0);
        Cases.due("0 of 7", withMap(1, 2, 3, 4).fits(0, 3), 0);
        Cases.due("0 of 15", withMap(1, 2, 4, 7).fits(0, 4), 0);
        Cases.due("0 of 8", withMap(1, 2, 4, 0).fits(0, 4), 0);
    }

    static void promise16_numbersFromNOnDoNotMatter() {
        Cases.due("n 1", withMap(1, 0, 1, 15).fits(0, 1), 1);
        Cases.due("n 2", withMap(3, 1, 0, 3).fits(0, 2), 1);
        Cases.due("n 3", withMap(4, 2, 1, 7).fits(0, 3), 1);
    }

    static void promise16_mapsBefore0AndAfter2AreUnknown() {
        forEachNoMap(m -> Cases.refused("fits(" + m + ", 2)", U, x -> x.fits(m, 2)));
    }

    static void promise16_n0AndN5AreOutside() {
        Cases.forEachOutOf(1, 4, n -> {
            Cases.refused("fits(0, " + n + ")", O, x -> x.fits(0, n));
            Cases.refused("fits(2, " + n + ")", O, x -> x.fits(2, n));
        });
    }

    static void promise16_unknownMapComesBeforeOutsideN() {
        Cases.refused("fits(3, 5)", U, x -> x.fits(3, 5));
        Cases.refused("fits(-1, 0)", U, x -> x.fits(-1, 0));
    }

    // ---- promise 17

    static void promise17_eachNAndOneSlotTwiceAreIn() {
        Cases.forEachN(n -> {
            CubeWorlds x = fields(n, n);
            Cases.due("n " + n, x.alike(0, 1), 1);
            Cases.due("n " + n + ", to itself", x.alike(1, 1), 1);
        });
        Cases.asks("alike(3, 3)", 0, x -> x.alike(3, 3));
    }

    static void promise17_firstAndLastCubePlaceCount() {
        Cases.forEachN(n -> {
            for (int place = 0; place < n; place += n > 1 ? n - 1 : 1) {
                CubeWorlds x = fields(n, n);
                x.put(1, place, place, x.product(1, 1 << place, 1 << place) ^ 1);
                Cases.due("n " + n + ", place " + place, x.alike(0, 1), 0);
                Cases.due("n " + n + ", place " + place + ", back", x.alike(1, 0), 0);
            }
        });
    }

    /** x by y is (2 by x) by (3 by y) in the field of 4, as 2 by 3 is 1. */
    static void promise17_threeMapsAreTakenInTheirOrder() {
        int[][] rows = {{2, 3}, {3, 1}, {1, 2}};
        int[][] orders = {{0, 1, 2}, {1, 0, 2}, {0, 2, 1}, {2, 1, 0}, {1, 2, 0}, {2, 0, 1}};
        int[] want = {1, 1, 0, 0, 0, 0};
        for (int o = 0; o < 6; o++) {
            CubeWorlds x = fields(2, 2);
            for (int m = 0; m <= 2; m++) {
                Cases.map(x, m, rows[orders[o][m]]);
            }
            Cases.due("order " + o, x.alike(0, 1), want[o]);
        }
    }

    /** 1 by 1 is 1 in a; b has it where A and B give 1, that is 2 by 3, as C of it. */
    static void promise17_theProductsOfAAreMappedAndThoseOfBAreMet() {
        CubeWorlds x = new CubeWorlds();
        Cases.cube(x, 0, 2, 1, 0, 0, 0);
        Cases.map(x, 0, 2, 1);
        Cases.map(x, 1, 3, 1);
        Cases.map(x, 2, 3, 2);
        // 2 by 3 is 3 and 2 by 1, 1 by 3, 1 by 1 are 0
        Cases.cube(x, 1, 2, 0, 0, 0, 3);
        Cases.due("from a to b", x.alike(0, 1), 1);
        Cases.due("from b to a", x.alike(1, 0), 0);
    }

    static void promise17_aMapThatDoesNotFitMakesItZero() {
        Cases.forEachN(n -> {
            for (int m = 0; m <= 2; m++) {
                CubeWorlds x = new CubeWorlds();
                x.world(0, n);
                x.world(1, n);
                Cases.maps(x, 1, 2, 4, 8);
                Cases.due("n " + n + ", all fit", x.alike(0, 1), 1);
                x.map(m, n - 1, 0);
                Cases.due("n " + n + ", map " + m, x.alike(0, 1), 0);
                x.map(m, n - 1, 1 << n & 15);
                Cases.due("n " + n + ", map " + m + " leads out", x.alike(0, 1), 0);
            }
        });
        Cases.due("four zeros at first", new CubeWorlds().alike(0, 1), 0);
    }

    static void promise17_numbersOfMapsFromNOnDoNotMatter() {
        for (int n = 1; n <= 3; n++) {
            CubeWorlds x = fields(n, n);
            for (int m = 0; m <= 2; m++) {
                x.map(m, n, 15);
            }
            Cases.due("n " + n, x.alike(0, 1), 1);
        }
    }

    static void promise17_whatALargerWorldLeftDoesNotCount() {
        Cases.whatALargerWorldLeftDoesNotCount("alike(0, 1)", x -> x.alike(0, 1));
        Cases.whatALargerWorldLeftDoesNotCount("alike(1, 0)", x -> x.alike(1, 0));
        Cases.whatALargerWorldLeftDoesNotCount("alike(0, 0)", x -> x.alike(0, 0));
    }

    static void promise17_slotsBefore0AndAfter3AreUnknown() {
        Cases.forEachNoSlot(s -> {
            Cases.refused("alike(" + s + ", 1)", U, x -> x.alike(s, 1));
            Cases.refused("alike(1, " + s + ")", U, x -> x.alike(1, s));
            Cases.refused("alike(" + s + ", " + s + ")", U, x -> x.alike(s, s));
        });
    }

    static void promise17_notOfOneNIsState() {
        for (int a = 0; a <= 3; a++) {
            for (int b = 0; b <= 3; b++) {
                if (a != b) {
                    int first = a;
                    int second = b;
                    Cases.refused("alike(" + a + ", " + b + ")", S, x -> x.alike(first, second));
                }
            }
        }
    }

    static void promise17_notOfOneNIsStateThoughNoMapFits() {
        Cases.refusedAfter(x -> noMap(x), "alike(1, 2)", S, x -> x.alike(1, 2));
        Cases.refusedAfter(x -> noMap(x), "alike(3, 0)", S, x -> x.alike(3, 0));
    }

    private static int noMap(CubeWorlds x) {
        Cases.maps(x, 0, 0, 0, 0);
        return 0;
    }

    // ---- promise 18

    static void promise18_eachNIsIn() {
        Cases.forEachN(n -> {
            CubeWorlds x = fields(n, 1);
            Cases.maps(x, n == 1 ? new int[] {1} : new int[] {3, 1, 4, 8});
            Cases.due("n " + n, x.carry(1, 0), 1);
            Cases.due("n " + n + ", alike", x.alike(0, 1), 1);
            int last = (1 << n) - 1;
            Cases.due("numbers", x.product(1, last, 0), 0);
            Cases.due("no number", x.product(1, last + 1, 0), U);
            Cases.due("what is carried stays", x.product(0, 1, last), last);
        });
    }

    /** x of bits i, j: A of it, by B of the other, is C of their product. */
    static void promise18_mapsAreTakenInTheirOrder() {
        CubeWorlds x = Cases.scene();
        Cases.due("carry(0, 3)", x.carry(0, 3), 1);
        for (int a = 0; a <= 15; a++) {
            for (int b = 0; b <= 15; b++) {
                int left = mapped(0, a);
                int right = mapped(1, b);
                int want = mapped(2, Cases.timesInScene(3, a, b));
                Cases.due(a + " by " + b, x.product(0, left, right), want);
            }
        }
    }

    private static int mapped(int map, int v) {
        int sum = 0;
        for (int i = 0; i <= 3; i++) {
            sum ^= (v >> i & 1) * Cases.mapOfScene(map, i);
        }
        return sum;
    }

    static void promise18_ontoItselfIsAsOntoAnother() {
        for (int s = 1; s <= 3; s++) {
            CubeWorlds x = Cases.scene();
            CubeWorlds y = Cases.scene();
            Cases.due("onto itself", x.carry(s, s), 1);
            Cases.due("onto another", y.carry(0, s), 1);
            for (int a = 0; a < 2 << s; a++) {
                for (int b = 1; b < 2 << s; b += 3) {
                    Cases.due("slot " + s, x.product(s, a, b), y.product(0, a, b));
                }
            }
        }
    }

    static void promise18_mapsFitTheWorldThatIsCarriedAndNotTheOneThatIsLost() {
        CubeWorlds x = fields(2, 4);
        Cases.maps(x, 2, 3, 0, 0);
        Cases.due("they fit n 2 alone", x.carry(1, 0), 1);
        Cases.due("to has n 2", x.product(1, 4, 0), U);
        Cases.refusedAfter(y -> fitFourAlone(y), "they fit n 4 alone", S, y -> y.carry(3, 1));
        Cases.refusedAfter(y -> fitFourAlone(y), "they fit n 4 alone, 0", S, y -> y.carry(3, 0));
    }

    private static int fitFourAlone(CubeWorlds x) {
        Cases.maps(x, 8, 4, 2, 1);
        return 0;
    }

    static void promise18_oneMapThatDoesNotFitIsState() {
        for (int m = 0; m <= 2; m++) {
            for (int a = 0; a <= 3; a++) {
                int map = m;
                int slot = a;
                Cases.refusedAfter(x -> oneIsShort(x, map, slot), "carry(2, " + a + ") without " + m, S,
                    x -> x.carry(2, slot));
                Cases.refusedAfter(x -> oneIsShort(x, map, slot), "carry onto itself without " + m, S,
                    x -> x.carry(slot, slot));
            }
        }
        Cases.refused("map 1 gives 2 of 1", S, x -> x.carry(3, 0));
    }

    /** All maps fit all n, but for one that gives 0 of the slot's last bit. */
    private static int oneIsShort(CubeWorlds x, int map, int slot) {
        Cases.maps(x, 1, 2, 4, 8);
        return x.map(map, slot, 0);
    }

    static void promise18_numbersOfMapsFromNOnDoNotMatter() {
        for (int n = 1; n <= 3; n++) {
            CubeWorlds x = fields(n, 4);
            for (int m = 0; m <= 2; m++) {
                x.map(m, n, 0);
            }
            Cases.due("n " + n, x.carry(1, 0), 1);
            Cases.due("n " + n + ", last by 1", x.product(1, (1 << n) - 1, 1), (1 << n) - 1);
        }
    }

    static void promise18_whatALargerWorldLeftDoesNotCount() {
        Cases.whatALargerWorldLeftDoesNotCount("carry(2, 0) + product(2, 1, 1)", x -> x.carry(2, 0) + x.product(2, 1, 1));
    }

    static void promise18_slotsBefore0AndAfter3AreUnknown() {
        Cases.forEachNoSlot(s -> {
            Cases.refused("carry(" + s + ", 1)", U, x -> x.carry(s, 1));
            Cases.refused("carry(1, " + s + ")", U, x -> x.carry(1, s));
        });
    }

    static void promise18_unknownSlotComesBeforeState() {
        Cases.refused("to, and map 1 does not fit", U, x -> x.carry(4, 0));
        Cases.refused("to before 0, and map 1 does not fit", U, x -> x.carry(-1, 0));
        Cases.refusedAfter(x -> noMap(x), "a, and no map fits", U, x -> x.carry(0, 4));
        Cases.refusedAfter(x -> noMap(x), "both", U, x -> x.carry(-1, 4));
    }

    // ---- promise 19

    static void promise19_n1IsFirstAndN3IsLast() {
        int[] want = {0, 1, 18, 147};
        for (int n = 1; n <= 3; n++) {
            CubeWorlds x = fields(n, n);
            Cases.due("n " + n, x.ways(0, 1), want[n]);
            Cases.due("n " + n + ", to itself", x.ways(1, 1), want[n]);
        }
        Cases.asks("n 1 of the scene", 1, x -> x.ways(0, 0));
        Cases.asks("n 2 of the scene", 18, x -> x.ways(1, 1));
    }

    static void promise19_worldsWithoutAOneAreCountedToo() {
        Cases.due("n 2", carried(2).ways(1, 0), 18);
        Cases.due("n 2, both", carried(2).ways(1, 1), 18);
        Cases.due("n 3", carried(3).ways(0, 1), 147);
        Cases.due("n 3, both", carried(3).ways(1, 1), 147);
    }

    private static CubeWorlds carried(int n) {
        CubeWorlds x = fields(n, n);
        Cases.map(x, 0, 3, 1, 4);
        Cases.map(x, 2, 1, 3, 5);
        x.carry(1, 0);
        return x;
    }

    static void promise19_theMapsThatAreDoNotMatter() {
        CubeWorlds x = fields(3, 3);
        noMap(x);
        Cases.due("no map fits", x.ways(0, 1), 147);
        Cases.maps(x, 9, 3, 15, 15);
        Cases.due("others", x.ways(0, 1), 147);
        Cases.due("maps stay", x.gives(1, 1), 9);
    }

    static void promise19_whatALargerWorldLeftDoesNotCount() {
        Cases.whatALargerWorldLeftDoesNotCount("ways(0, 1)", x -> x.ways(0, 1));
        Cases.whatALargerWorldLeftDoesNotCount("ways(1, 0)", x -> x.ways(1, 0));
        Cases.whatALargerWorldLeftDoesNotCount("ways(0, 0)", x -> x.ways(0, 0));
    }

    static void promise19_slotsBefore0AndAfter3AreUnknown() {
        Cases.forEachNoSlot(s -> {
            Cases.refused("ways(" + s + ", 1)", U, x -> x.ways(s, 1));
            Cases.refused("ways(1, " + s + ")", U, x -> x.ways(1, s));
            Cases.refused("ways(" + s + ", " + s + ")", U, x -> x.ways(s, s));
        });
    }

    static void promise19_unknownSlotComesBeforeState() {
        Cases.refused("a, and b does not divide", U, x -> x.ways(4, 2));
        Cases.refused("b, and a does not divide", U, x -> x.ways(2, -1));
        Cases.refused("a, and b is of n 4", U, x -> x.ways(-1, 3));
        Cases.refused("b, and a is of n 4", U, x -> x.ways(3, 4));
    }

    static void promise19_notOfOneNIsState() {
        Cases.refused("n 1, n 2", S, x -> x.ways(0, 1));
        Cases.refused("n 2, n 1", S, x -> x.ways(1, 0));
        Cases.refusedAfter(x -> x.field(2, 3), "n 2, n 3", S, x -> x.ways(1, 2));
        Cases.refusedAfter(x -> x.field(2, 3), "n 3, n 4", S, x -> x.ways(2, 3));
    }

    static void promise19_n4IsState() {
        Cases.refused("with itself", S, x -> x.ways(3, 3));
        Cases.refusedAfter(x -> x.field(2, 4), "with another", S, x -> x.ways(2, 3));
        Cases.refusedAfter(x -> x.world(3, 4), "nor does it divide", S, x -> x.ways(3, 3));
    }

    static void promise19_oneThatDoesNotDivideIsState() {
        for (int n = 1; n <= 3; n++) {
            int bits = n;
            Cases.refusedAfter(x -> spoilt(x, bits), "n " + n + ", a", S, x -> x.ways(1, 0));
            Cases.refusedAfter(x -> spoilt(x, bits), "n " + n + ", b", S, x -> x.ways(0, 1));
            Cases.refusedAfter(x -> spoilt(x, bits), "n " + n + ", both", S, x -> x.ways(1, 1));
        }
        Cases.refused("slot 2 of the scene", S, x -> x.ways(2, 2));
    }

    /** Slot 0 is a field; slot 1 is one but for 1 by 1, which is 0. */
    private static int spoilt(CubeWorlds x, int n) {
        x.field(0, n);
        x.field(1, n);
        return x.put(1, 0, 0, 0);
    }
}
