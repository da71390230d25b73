/** Promises 20 to 26, each sentence that names a boundary: what is in, what is out, which refusal comes first. */
public final class PlaneBoundaryTest {
    private static final int U = Cases.U, O = Cases.O, S = Cases.S, NONE = Cases.NONE;

    public static void main(String[] args) throws IllegalAccessException {
        Cases.runAll(PlaneBoundaryTest.class);
    }

    /** The first point or line behind the plane of n. */
    private static int placesOf(int n) {
        return (1 << 2 * n) + (1 << n) + 1;
    }

    private static CubeWorlds empty(int n) {
        CubeWorlds x = new CubeWorlds();
        x.world(0, n);
        return x;
    }

    private static CubeWorlds fieldOf(int n) {
        CubeWorlds x = new CubeWorlds();
        x.field(0, n);
        return x;
    }

    private static CubeWorlds with(int n, int... products) {
        CubeWorlds x = new CubeWorlds();
        Cases.cube(x, 0, n, products);
        return x;
    }

    /** The document's words for the scene's slot n - 1. */
    private static boolean lies(int n, int point, int line) {
        int size = 1 << n;
        int inside = size * size;
        boolean isLastPoint = point == inside + size;
        if (line == inside + size) {
            return point >= inside;
        }
        if (line >= inside) {
            return isLastPoint || point < inside && point / size == line - inside;
        }
        int m = line / size;
        int b = line % size;
        if (point >= inside) {
            return !isLastPoint && point - inside == m;
        }
        return point % size == (Cases.timesInScene(n - 1, m, point / size) ^ b);
    }

    // ---- promise 20

    static void promise20_everyPointAndLineFrom0ToTheLastIsIn() {
        Cases.forEachN(n -> {
            for (int line = 0; line < placesOf(n); line++) {
                CubeWorlds x = Cases.scene();
                for (int point = 0; point < placesOf(n); point++) {
                    String call = "on(" + (n - 1) + ", " + point + ", " + line + ")";
                    Cases.due(call, x.on(n - 1, point, line), lies(n, point, line) ? 1 : 0);
                }
            }
        });
    }

    static void promise20_theLastPointLiesOnUprightLinesAndTheLastAlone() {
        Cases.forEachN(n -> {
            int inside = 1 << 2 * n;
            int last = placesOf(n) - 1;
            Cases.asks("last, last", 1, x -> x.on(n - 1, last, last));
            Cases.asks("last, last upright", 1, x -> x.on(n - 1, last, last - 1));
            Cases.asks("last, first upright", 1, x -> x.on(n - 1, last, inside));
            Cases.asks("last, last of a steepness", 0, x -> x.on(n - 1, last, inside - 1));
            Cases.asks("last, first", 0, x -> x.on(n - 1, last, 0));
        });
    }

    static void promise20_anEndLiesOnLinesOfItsSteepnessAndTheLastAlone() {
        Cases.forEachN(n -> {
            int size = 1 << n;
            int inside = size * size;
            int last = inside + size;
            Cases.asks("first end, last", 1, x -> x.on(n - 1, inside, last));
            Cases.asks("last end, last", 1, x -> x.on(n - 1, last - 1, last));
            Cases.asks("first end, an upright", 0, x -> x.on(n - 1, inside, inside));
            Cases.asks("last end, last upright", 0, x -> x.on(n - 1, last - 1, last - 1));
            Cases.asks("first end, its last line", 1, x -> x.on(n - 1, inside, size - 1));
            Cases.asks("first end, the next line", 0, x -> x.on(n - 1, inside, size));
            Cases.asks("last end, its first line", 1, x -> x.on(n - 1, last - 1, inside - size));
            Cases.asks("last end, the line before", 0, x -> x.on(n - 1, last - 1, inside - size - 1));
        });
    }

    static void promise20_pointsBefore0AndAfterTheLastAreUnknown() {
        Cases.forEachN(n -> Cases.forEachOutOf(0, placesOf(n) - 1, p ->
            Cases.refused("on(" + (n - 1) + ", " + p + ", 0)", U, x -> x.on(n - 1, p, 0))));
    }

    static void promise20_linesBefore0AndAfterTheLastAreUnknown() {
        Cases.forEachN(n -> Cases.forEachOutOf(0, placesOf(n) - 1, line ->
            Cases.refused("on(" + (n - 1) + ", 0, " + line + ")", U, x -> x.on(n - 1, 0, line))));
    }

    static void promise20_whatALargerWorldLeftDoesNotCount() {
        Cases.whatALargerWorldLeftDoesNotCount("on(0, 3, 3)", x -> x.on(0, 3, 3));
    }

    static void promise20_slotsBefore0AndAfter3AreUnknown() {
        Cases.forEachNoSlot(s -> Cases.refused("on(" + s + ", 0, 0)", U, x -> x.on(s, 0, 0)));
    }

    static void promise20_twoUnknownsAreUnknown() {
        Cases.refused("slot and point", U, x -> x.on(4, 273, 0));
        Cases.refused("slot and line", U, x -> x.on(-1, 0, -1));
        Cases.refused("point and line", U, x -> x.on(0, 7, 7));
    }

    static void promise20_placesOfTheWorldBeforeAreUnknown() {
        Cases.refusedAfter(x -> x.world(3, 1), "point 272", U, x -> x.on(3, 272, 0));
        Cases.refusedAfter(x -> x.turn(3, 1, 0), "line 21", U, x -> x.on(3, 0, 21));
    }

    // ---- promise 21

    /** Pairs of points next to the bounds of each part of the plane, with every line that both lie on. */
    static void promise21_theOneLineOfTwoPointsNextToEachBound() {
        Cases.forEachN(n -> {
            int[] places = nextToBounds(n);
            for (int a : places) {
                CubeWorlds x = Cases.scene();
                for (int b : places) {
                    String call = "join(" + (n - 1) + ", " + a + ", " + b + ")";
                    Cases.due(call, x.join(n - 1, a, b), a == b ? S : onlyLine(n, a, b));
                }
            }
        });
    }

    private static int[] nextToBounds(int n) {
        int size = 1 << n;
        int inside = size * size;
        int last = inside + size;
        return new int[] {0, 1, size - 1, size, size + 1, inside / 2, inside - size - 1, inside - size,
            inside - 1, inside, inside + 1, last - 1, last};
    }

    private static int onlyLine(int n, int a, int b) {
        int found = NONE;
        int count = 0;
        for (int line = 0; line < placesOf(n); line++) {
            if (lies(n, a, line) && lies(n, b, line)) {
                found = line;
                count++;
            }
        }
        return count == 1 ? found : NONE;
    }

    static void promise21_noneIfThereIsNoLine() {
        Cases.forEachN(n -> {
            int size = 1 << n;
            Cases.due("n " + n + ": (0, 0), (1, 1)", empty(n).join(0, 0, size + 1), NONE);
            Cases.due("n " + n + ": (1, 1), (0, 0)", empty(n).join(0, size + 1, 0), NONE);
            Cases.due("n " + n + ": (0, 0), last inside", empty(n).join(0, 0, size * size - 1), NONE);
        });
    }

    static void promise21_noneIfThereIsMoreThanOneLine() {
        Cases.forEachN(n -> {
            int size = 1 << n;
            Cases.due("n " + n + ": (0, 0), (1, 0)", empty(n).join(0, 0, size), NONE);
            Cases.due("n " + n + ": (1, 0), (0, 0)", empty(n).join(0, size, 0), NONE);
        });
    }

    /** Only m 1 and 2 by 1 are 1, only 0 and 3 by 1 are 0: two lines or none, and never one. */
    static void promise21_noneIfThereAreJustTwoLines() {
        CubeWorlds x = with(2, 1, 1, 1, 2);
        Cases.due("(0, 0), (1, 1)", x.join(0, 0, 5), NONE);
        Cases.due("(0, 0), (1, 2)", x.join(0, 0, 6), NONE);
        // m by 2 is 0, 1, 2, 3
        Cases.due("(0, 0), (2, 3)", x.join(0, 0, 11), 12);
    }

    static void promise21_endsAndUprightsNeedNoProduct() {
        Cases.forEachN(n -> {
            CubeWorlds x = empty(n);
            int size = 1 << n;
            int inside = size * size;
            int last = inside + size;
            Cases.due("(0, 0), (0, 1)", x.join(0, 0, 1), inside);
            Cases.due("last upright", x.join(0, inside - 1, inside - 2), last - 1);
            Cases.due("first end, last end", x.join(0, inside, last - 1), last);
            Cases.due("last end, last", x.join(0, last - 1, last), last);
            Cases.due("last, first end", x.join(0, last, inside), last);
            Cases.due("(0, 0), last", x.join(0, 0, last), inside);
            Cases.due("last, last inside", x.join(0, last, inside - 1), last - 1);
            Cases.due("(0, 0), first end", x.join(0, 0, inside), 0);
            Cases.due("(0, 1), last end", x.join(0, 1, last - 1), inside - size + 1);
            Cases.due("last end, last inside", x.join(0, last - 1, inside - 1), inside - 1);
        });
    }

    static void promise21_askingChangesNothing() {
        Cases.forEachN(n -> {
            int last = placesOf(n) - 1;
            Cases.asks("first, last", 1 << 2 * n, x -> x.join(n - 1, 0, last));
            Cases.asks("last, the one before", last, x -> x.join(n - 1, last, last - 1));
        });
    }

    static void promise21_bothAreOneIsState() {
        Cases.forEachN(n -> {
            for (int p : new int[] {0, 1, (1 << 2 * n) - 1, 1 << 2 * n, placesOf(n) - 2, placesOf(n) - 1}) {
                Cases.refused("join(" + (n - 1) + ", " + p + ", " + p + ")", S, x -> x.join(n - 1, p, p));
            }
        });
    }

    static void promise21_pointsBefore0AndAfterTheLastAreUnknown() {
        Cases.forEachN(n -> Cases.forEachOutOf(0, placesOf(n) - 1, p -> {
            Cases.refused("join(" + (n - 1) + ", " + p + ", 0)", U, x -> x.join(n - 1, p, 0));
            Cases.refused("join(" + (n - 1) + ", 0, " + p + ")", U, x -> x.join(n - 1, 0, p));
        }));
    }

    static void promise21_whatALargerWorldLeftDoesNotCount() {
        Cases.whatALargerWorldLeftDoesNotCount("join(0, 0, 3)", x -> x.join(0, 0, 3));
        Cases.whatALargerWorldLeftDoesNotCount("join(0, 1, 2)", x -> x.join(0, 1, 2));
    }

    static void promise21_slotsBefore0AndAfter3AreUnknown() {
        Cases.forEachNoSlot(s -> Cases.refused("join(" + s + ", 0, 1)", U, x -> x.join(s, 0, 1)));
    }

    static void promise21_unknownComesBeforeBothAreOne() {
        Cases.refused("slot", U, x -> x.join(4, 0, 0));
        Cases.refused("points behind the last", U, x -> x.join(0, 7, 7));
        Cases.refused("points before 0", U, x -> x.join(3, -1, -1));
        Cases.refused("a and b", U, x -> x.join(3, -1, 273));
    }

    // ---- promise 22

    static void promise22_theOnePointOfTwoLinesNextToEachBound() {
        Cases.forEachN(n -> {
            int[] places = nextToBounds(n);
            for (int a : places) {
                CubeWorlds x = Cases.scene();
                for (int b : places) {
                    String call = "meet(" + (n - 1) + ", " + a + ", " + b + ")";
                    Cases.due(call, x.meet(n - 1, a, b), a == b ? S : onlyPoint(n, a, b));
                }
            }
        });
    }

    private static int onlyPoint(int n, int a, int b) {
        int found = NONE;
        int count = 0;
        for (int point = 0; point < placesOf(n); point++) {
            if (lies(n, point, a) && lies(n, point, b)) {
                found = point;
                count++;
            }
        }
        return count == 1 ? found : NONE;
    }

    static void promise22_noneIfThereIsNoPoint() {
        Cases.forEachN(n -> {
            int size = 1 << n;
            Cases.due("n " + n + ": 0 and 0, 1 and 1", empty(n).meet(0, 0, size + 1), NONE);
            Cases.due("n " + n + ": 1 and 1, 0 and 0", empty(n).meet(0, size + 1, 0), NONE);
            Cases.due("n " + n + ": first, last inside", empty(n).meet(0, 0, size * size - 1), NONE);
        });
    }

    static void promise22_noneIfThereIsMoreThanOnePoint() {
        Cases.forEachN(n -> {
            int size = 1 << n;
            Cases.due("n " + n + ": 0 and 0, 1 and 0", empty(n).meet(0, 0, size), NONE);
            Cases.due("n " + n + ": 1 and 0, 0 and 0", empty(n).meet(0, size, 0), NONE);
        });
    }

    /** 1 by 1 and by 2 is 1, 1 by 0 and by 3 is 0: two points or none, and never one. */
    static void promise22_noneIfThereAreJustTwoPoints() {
        CubeWorlds x = with(2, 1, 1, 1, 2);
        Cases.due("0 and 0, 1 and 1", x.meet(0, 0, 5), NONE);
        Cases.due("0 and 0, 1 and 2", x.meet(0, 0, 6), NONE);
        // 2 by 0, 1, 2, 3 is 0, 1, 2, 3
        Cases.due("0 and 0, 2 and 3", x.meet(0, 0, 11), 12);
    }

    static void promise22_linesOfOneSteepnessUprightAndLastNeedNoProduct() {
        Cases.forEachN(n -> {
            CubeWorlds x = empty(n);
            int size = 1 << n;
            int inside = size * size;
            int last = inside + size;
            Cases.due("first two", x.meet(0, 0, 1), inside);
            Cases.due("last two inside", x.meet(0, inside - 1, inside - 2), last - 1);
            Cases.due("first and last upright", x.meet(0, inside, last - 1), last);
            Cases.due("last upright, last", x.meet(0, last - 1, last), last);
            Cases.due("last, first upright", x.meet(0, last, inside), last);
            Cases.due("first, last", x.meet(0, 0, last), inside);
            Cases.due("last, last inside", x.meet(0, last, inside - 1), last - 1);
            Cases.due("first, first upright", x.meet(0, 0, inside), 0);
            Cases.due("0 and 1, last upright", x.meet(0, 1, last - 1), inside - size + 1);
            Cases.due("last upright, last inside", x.meet(0, last - 1, inside - 1), inside - 1);
        });
    }

    static void promise22_askingChangesNothing() {
        Cases.forEachN(n -> {
            int last = placesOf(n) - 1;
            Cases.asks("first, last", 1 << 2 * n, x -> x.meet(n - 1, 0, last));
            Cases.asks("last, the one before", last, x -> x.meet(n - 1, last, last - 1));
        });
    }

    static void promise22_bothAreOneIsState() {
        Cases.forEachN(n -> {
            for (int p : new int[] {0, 1, (1 << 2 * n) - 1, 1 << 2 * n, placesOf(n) - 2, placesOf(n) - 1}) {
                Cases.refused("meet(" + (n - 1) + ", " + p + ", " + p + ")", S, x -> x.meet(n - 1, p, p));
            }
        });
    }

    static void promise22_linesBefore0AndAfterTheLastAreUnknown() {
        Cases.forEachN(n -> Cases.forEachOutOf(0, placesOf(n) - 1, p -> {
            Cases.refused("meet(" + (n - 1) + ", " + p + ", 0)", U, x -> x.meet(n - 1, p, 0));
            Cases.refused("meet(" + (n - 1) + ", 0, " + p + ")", U, x -> x.meet(n - 1, 0, p));
        }));
    }

    static void promise22_whatALargerWorldLeftDoesNotCount() {
        Cases.whatALargerWorldLeftDoesNotCount("meet(0, 0, 3)", x -> x.meet(0, 0, 3));
        Cases.whatALargerWorldLeftDoesNotCount("meet(0, 1, 2)", x -> x.meet(0, 1, 2));
    }

    static void promise22_slotsBefore0AndAfter3AreUnknown() {
        Cases.forEachNoSlot(s -> Cases.refused("meet(" + s + ", 0, 1)", U, x -> x.meet(s, 0, 1)));
    }

    static void promise22_unknownComesBeforeBothAreOne() {
        Cases.refused("slot", U, x -> x.meet(4, 0, 0));
        Cases.refused("lines behind the last", U, x -> x.meet(0, 7, 7));
        Cases.refused("lines before 0", U, x -> x.meet(3, -1, -1));
        Cases.refused("a and b", U, x -> x.meet(3, -1, 273));
    }

    // ---- promise 23

    static void promise23_noneIsBadIfTheWorldDivides() {
        Cases.forEachN(n -> Cases.due("field " + n, fieldOf(n).bad(0), 0));
        Cases.asks("n 1 of the scene", 0, x -> x.bad(0));
        Cases.asks("n 2 of the scene", 0, x -> x.bad(1));
        Cases.asks("n 4 of the scene", 0, x -> x.bad(3));
    }

    /** Every two lines of unlike steepness, once: none of one steepness, upright, or last. */
    static void promise23_mostAreBadIfAllProductsAre0() {
        int[] want = {0, 1 * 4, 6 * 16, 28 * 64, 120 * 256};
        Cases.forEachN(n -> Cases.due("n " + n, empty(n).bad(0), want[n]));
    }

    static void promise23_oneFailingSteepnessIsTheLeast() {
        Cases.due("n 2, 3 by 3", with(2, 3, 1, 1, 3).bad(0), 2 * 16);
        Cases.due("n 3, 7 by 7", with(3, 7, 3, 5, 1, 2, 6, 3, 5, 2).bad(0), 4 * 64);
        Cases.due("n 4, 15 by 2, 12, 14",
            with(4, 1, 2, 4, 8, 12, 3, 13, 10, 2, 4, 15, 12, 11, 5, 1, 9).bad(0), 8 * 256);
    }

    /** Steepness is on the left: three numbers by 15 are 0 make three that fail. */
    static void promise23_theSteepnessIsOnTheLeft() {
        Cases.due("n 4, 2, 12, 14 by 15",
            with(4, 1, 12, 2, 11, 2, 3, 4, 5, 4, 13, 15, 1, 8, 10, 12, 9).bad(0), 3 * 8 * 256);
    }

    static void promise23_whatALargerWorldLeftDoesNotCount() {
        Cases.whatALargerWorldLeftDoesNotCount("bad(0)", x -> x.bad(0));
    }

    static void promise23_slotsBefore0AndAfter3AreUnknown() {
        Cases.forEachNoSlot(s -> Cases.refused("bad(" + s + ")", U, x -> x.bad(s)));
    }

    // ---- promise 24

    static void promise24_y0HasRank0AndTheLastIsIn() {
        for (int s = 0; s <= 3; s++) {
            int slot = s;
            Cases.asks("rank(" + s + ", 0)", 0, x -> x.rank(slot, 0));
            Cases.asks("rank(" + s + ", last)", s == 2 ? 2 : s + 1, x -> x.rank(slot, (2 << slot) - 1));
        }
    }

    static void promise24_everyRankFrom0ToN() {
        Cases.forEachN(n -> {
            for (int r = 0; r <= n; r++) {
                CubeWorlds x = empty(n);
                for (int i = 0; i < r; i++) {
                    x.put(0, i, n - 1, 1 << n - 1 - i);
                }
                Cases.due("n " + n + ", rank " + r, x.rank(0, 1 << n - 1), r);
            }
        });
    }

    /** 1 by 1 and by 2 are 1 and 2: the multiplier of 1 gives two numbers, by 1 four are given. */
    static void promise24_yIsOnTheRight() {
        CubeWorlds x = with(2, 1, 2, 0, 0);
        Cases.due("of 1", x.rank(0, 1), 1);
        Cases.due("of 3", x.rank(0, 3), 1);
        CubeWorlds y = with(2, 1, 0, 2, 0);
        Cases.due("of 1, turned", y.rank(0, 1), 2);
        Cases.due("of 2, turned", y.rank(0, 2), 0);
    }

    static void promise24_yBefore0AndFromTwoToTheNOnIsUnknown() {
        Cases.forEachN(n -> Cases.forEachOutOf(0, (1 << n) - 1, y ->
            Cases.refused("rank(" + (n - 1) + ", " + y + ")", U, x -> x.rank(n - 1, y))));
    }

    static void promise24_whatALargerWorldLeftDoesNotCount() {
        Cases.whatALargerWorldLeftDoesNotCount("rank(0, 1)", x -> x.rank(0, 1));
    }

    static void promise24_slotsBefore0AndAfter3AreUnknown() {
        Cases.forEachNoSlot(s -> Cases.refused("rank(" + s + ", 0)", U, x -> x.rank(s, 0)));
    }

    static void promise24_twoUnknownsAreUnknown() {
        Cases.refused("slot and y", U, x -> x.rank(4, 16));
        Cases.refused("slot and y before 0", U, x -> x.rank(-1, -1));
    }

    // ---- promise 25

    static void promise25_r0IsFirstAndR4IsLast() {
        int[][] want = {{1, 1, 0, 0, 0}, {1, 0, 3, 0, 0}, {1, 1, 4, 2, 0}, {1, 0, 0, 0, 15}};
        for (int s = 0; s <= 3; s++) {
            for (int r = 0; r <= 4; r++) {
                int slot = s;
                int rank = r;
                Cases.asks("ranks(" + s + ", " + r + ")", want[s][r], x -> x.ranks(slot, rank));
            }
        }
    }

    static void promise25_allNumbersHaveRank0IfAllProductsAre0() {
        Cases.forEachN(n -> {
            for (int r = 0; r <= 4; r++) {
                Cases.due("n " + n + ", rank " + r, empty(n).ranks(0, r), r == 0 ? 1 << n : 0);
            }
        });
    }

    static void promise25_aRankAboveNIsInAndNoNumberHasIt() {
        for (int n = 1; n <= 3; n++) {
            for (int r = n + 1; r <= 4; r++) {
                Cases.due("n " + n + ", rank " + r, fieldOf(n).ranks(0, r), 0);
            }
        }
    }

    static void promise25_rBefore0AndAfter4IsOutside() {
        Cases.forEachOutOf(0, 4, r -> {
            Cases.refused("ranks(0, " + r + ")", O, x -> x.ranks(0, r));
            Cases.refused("ranks(3, " + r + ")", O, x -> x.ranks(3, r));
        });
    }

    static void promise25_whatALargerWorldLeftDoesNotCount() {
        Cases.whatALargerWorldLeftDoesNotCount("ranks(0, 0)", x -> x.ranks(0, 0));
        Cases.whatALargerWorldLeftDoesNotCount("ranks(0, 1)", x -> x.ranks(0, 1));
        Cases.whatALargerWorldLeftDoesNotCount("ranks(0, 2)", x -> x.ranks(0, 2));
        Cases.whatALargerWorldLeftDoesNotCount("ranks(0, 3)", x -> x.ranks(0, 3));
        Cases.whatALargerWorldLeftDoesNotCount("ranks(0, 4)", x -> x.ranks(0, 4));
    }

    static void promise25_slotsBefore0AndAfter3AreUnknown() {
        Cases.forEachNoSlot(s -> Cases.refused("ranks(" + s + ", 0)", U, x -> x.ranks(s, 0)));
    }

    static void promise25_unknownSlotComesBeforeOutsideR() {
        Cases.refused("ranks(4, 5)", U, x -> x.ranks(4, 5));
        Cases.refused("ranks(-1, -1)", U, x -> x.ranks(-1, -1));
    }

    // ---- promise 26

    static void promise26_n1IsFirstAndN2IsLast() {
        Cases.asks("cubes(1)", 1, x -> x.cubes(1));
        Cases.asks("cubes(2)", 12, x -> x.cubes(2));
    }

    static void promise26_n0AndN3AreOutside() {
        Cases.forEachOutOf(1, 2, n -> Cases.refused("cubes(" + n + ")", O, x -> x.cubes(n)));
    }
}
