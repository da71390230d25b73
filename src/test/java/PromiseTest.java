/** For each promise: ordinary inputs, the edges that the document names, wrong inputs in the order of refusals. */
public final class PromiseTest {
    private static final int U = CubeWorlds.UNKNOWN, O = CubeWorlds.OUTSIDE, S = CubeWorlds.STATE, NONE = CubeWorlds.NONE;
    private static final int[] NO_SLOTS = {-1, 4, Integer.MIN_VALUE, Integer.MAX_VALUE};
    private static int wrong = 0;

    public static void main(String[] args) {
        constants();
        newObject();
        world();
        put();
        field();
        product();
        divides();
        broken();
        one();
        quotient();
        turn();
        joins();
        many();
        unlike();
        map();
        gives();
        fits();
        alike();
        carry();
        ways();
        on();
        join();
        meet();
        bad();
        rank();
        ranks();
        cubes();
        System.out.println(wrong == 0 ? "PromiseTest: all answers are as due" : "PromiseTest: " + wrong + " wrong");
        if (wrong != 0) {
            System.exit(1);
        }
    }

    private static void due(String call, int got, int want) {
        if (got != want) {
            wrong++;
            System.out.println(call + " answered " + got + ", due is " + want);
        }
    }

    private static CubeWorlds field(int n) {
        CubeWorlds x = new CubeWorlds();
        x.field(0, n);
        return x;
    }

    /** n 2: 1 by 1 is 1, 1 by 2 is 2, 2 by 1 is 3, 2 by 2 is v. */
    private static CubeWorlds skew(int v) {
        CubeWorlds x = new CubeWorlds();
        x.world(0, 2);
        x.put(0, 0, 0, 1);
        x.put(0, 0, 1, 2);
        x.put(0, 1, 0, 3);
        x.put(0, 1, 1, v);
        return x;
    }

    private static void maps(CubeWorlds x, int... numbers) {
        for (int m = 0; m < 3; m++) {
            for (int i = 0; i < numbers.length / 3; i++) {
                x.map(m, i, numbers[m * (numbers.length / 3) + i]);
            }
        }
    }

    private static void constants() {
        due("UNKNOWN", U, -1);
        due("OUTSIDE", O, -2);
        due("STATE", S, -3);
        due("FULL", CubeWorlds.FULL, -4);
        due("NONE", NONE, -9);
    }

    private static void newObject() {
        CubeWorlds x = new CubeWorlds();
        for (int s = 0; s < 4; s++) {
            due("1: 1 by 1", x.product(s, 1, 1), 1);
            due("1: 1 by 0", x.product(s, 1, 0), 0);
            due("1: n is 1", x.product(s, 2, 0), U);
            due("1: one", x.one(s), 1);
        }
        for (int m = 0; m < 3; m++) {
            due("1: maps give 0", x.gives(m, 15), 0);
        }
        x.field(0, 4);
        due("1: objects of their own", new CubeWorlds().product(0, 2, 0), U);
    }

    private static void world() {
        CubeWorlds x = new CubeWorlds();
        for (int n = 1; n <= 4; n++) {
            x.field(3, n);
            due("2: world", x.world(3, n), 1 << n);
            due("2: all 0", x.product(3, (1 << n) - 1, (1 << n) - 1), 0);
            due("2: numbers", x.product(3, 1 << n, 0), U);
        }
        due("2: the other slots stay", x.product(2, 1, 1), 1);
        for (int s : NO_SLOTS) {
            due("2: slot first", x.world(s, 0), U);
        }
        x.field(3, 2);
        due("2: n 0", x.world(3, 0), O);
        due("2: n 5", x.world(3, 5), O);
        due("2: refused changes nothing", x.product(3, 2, 2), 3);
    }

    private static void put() {
        CubeWorlds x = field(3);
        due("3: what it was", x.put(0, 1, 2, 5), 3);
        due("3: what it was now", x.put(0, 1, 2, 5), 5);
        due("3: put", x.product(0, 2, 4), 5);
        due("3: the other order stays", x.product(0, 4, 2), 3);
        due("3: sums of it", x.product(0, 3, 5), 1 ^ 4 ^ 2 ^ 5);
        for (int s : NO_SLOTS) {
            due("3: slot", x.put(s, -1, 0, 0), U);
        }
        due("3: v before i", x.put(0, 3, 0, 8), U);
        due("3: v less than 0", x.put(0, 0, 0, -1), U);
        due("3: i 3", x.put(0, 3, 0, 7), O);
        due("3: i -1", x.put(0, -1, 0, 7), O);
        due("3: j 3", x.put(0, 0, 3, 7), O);
        due("3: j -1", x.put(0, 0, -1, 7), O);
        due("3: refused changes nothing", x.product(0, 1, 1), 1);
    }

    private static void field() {
        CubeWorlds x = new CubeWorlds();
        int[] squares = {0, 1, 3, 6, 12};
        for (int n = 1; n <= 4; n++) {
            due("4: N", x.field(1, n), 1 << n);
            due("4: it divides", x.divides(1), 1);
            due("4: top by top", x.product(1, 1 << n - 1, 1 << n - 1), squares[n]);
        }
        due("4: 2 by 8", x.product(1, 2, 8), 3);
        x.field(1, 3);
        due("4: 2 by 4", x.product(1, 2, 4), 3);
        for (int s : NO_SLOTS) {
            due("4: slot first", x.field(s, 5), U);
        }
        due("4: n 0", x.field(1, 0), O);
        due("4: n 5", x.field(1, 5), O);
        due("4: refused changes nothing", x.product(1, 4, 4), 6);
    }

    private static void product() {
        CubeWorlds x = skew(0);
        due("5: 1 by 2", x.product(0, 1, 2), 2);
        due("5: 2 by 1", x.product(0, 2, 1), 3);
        due("5: 3 by 3", x.product(0, 3, 3), 1 ^ 2 ^ 3);
        due("5: 0 by 3", x.product(0, 0, 3), 0);
        for (int s : NO_SLOTS) {
            due("5: slot", x.product(s, 0, 0), U);
        }
        due("5: x 4", x.product(0, 4, 0), U);
        due("5: x -1", x.product(0, -1, 0), U);
        due("5: y 4", x.product(0, 0, 4), U);
        due("5: y -1", x.product(0, 0, -1), U);
    }

    private static void divides() {
        due("6: a field", field(4).divides(0), 1);
        CubeWorlds x = skew(0);
        due("6: 2 by 2 is 0", x.divides(0), 0);
        x.world(0, 1);
        due("6: all 0", x.divides(0), 0);
        for (int s : NO_SLOTS) {
            due("6: slot", x.divides(s), U);
        }
    }

    private static void broken() {
        CubeWorlds x = skew(0);
        // 1 by 1, 2, 3 is 1, 2, 3; 2 by 1, 2 is 3, 0; 3 by 3 is 0
        due("7: x", x.broken(0, false), 2);
        due("7: y", x.broken(0, true), 2);
        x.put(0, 1, 1, 3);
        due("7: x by 3", x.broken(0, false), 2);
        due("7: y is 3", x.broken(0, true), 3);
        due("7: a field", field(3).broken(0, false), NONE);
        due("7: a field, second", field(3).broken(0, true), NONE);
        for (int s : NO_SLOTS) {
            due("7: slot", x.broken(s, true), U);
        }
    }

    private static void one() {
        CubeWorlds x = skew(0);
        due("8: on one side only", x.one(0), NONE);
        x.put(0, 1, 0, 2);
        due("8: one", x.one(0), 1);
        x.put(0, 0, 0, 3);
        x.put(0, 0, 1, 1);
        x.put(0, 1, 0, 1);
        x.put(0, 1, 1, 2);
        due("8: one is 2", x.one(0), 2);
        x.world(1, 2);
        due("8: none of all 0", x.one(1), NONE);
        for (int s : NO_SLOTS) {
            due("8: slot", x.one(s), U);
        }
    }

    private static void quotient() {
        CubeWorlds x = skew(1);
        // 2 by 1, 2, 3 is 3, 1, 2; 1, 2, 3 by 2 is 2, 1, 3
        due("9: 2 by y is 2", x.quotient(0, 2, 2, true), 3);
        due("9: y by 2 is 2", x.quotient(0, 2, 2, false), 1);
        due("9: 2 by y is 0", x.quotient(0, 2, 0, true), 0);
        due("9: more than one", x.quotient(0, 0, 0, true), NONE);
        due("9: none", x.quotient(0, 0, 1, false), NONE);
        for (int s : NO_SLOTS) {
            due("9: slot", x.quotient(s, 0, 0, true), U);
        }
        due("9: x 4", x.quotient(0, 4, 0, true), U);
        due("9: x -1", x.quotient(0, -1, 0, false), U);
        due("9: z 4", x.quotient(0, 1, 4, true), U);
        due("9: z -1", x.quotient(0, 1, -1, false), U);
    }

    private static void turn() {
        // only bit k of 2 to the i by 2 to the j for i 0, j 1, k 2
        int[][] where = {{0, 1, 2}, {0, 2, 1}, {1, 0, 2}, {2, 0, 1}, {1, 2, 0}, {2, 1, 0}};
        for (int t = 0; t < 6; t++) {
            for (int to = 0; to < 2; to++) {
                CubeWorlds x = new CubeWorlds();
                x.world(0, 3);
                x.put(0, 0, 1, 4);
                due("10: turn", x.turn(to, 0, t), 1);
                for (int i = 0; i < 3; i++) {
                    for (int j = 0; j < 3; j++) {
                        boolean here = i == where[t][0] && j == where[t][1];
                        due("10: t " + t + " to " + to, x.product(to, 1 << i, 1 << j), here ? 1 << where[t][2] : 0);
                    }
                }
                due("10: the slot stays", x.product(0, 1, 2), to == 1 || t == 0 ? 4 : 0);
            }
        }
        CubeWorlds x = field(2);
        for (int s : NO_SLOTS) {
            due("10: to", x.turn(s, 0, 6), U);
            due("10: slot", x.turn(0, s, -1), U);
        }
        due("10: t -1", x.turn(1, 0, -1), O);
        due("10: t 6", x.turn(1, 0, 6), O);
        due("10: refused changes nothing", x.product(1, 2, 0), U);
    }

    private static void joins() {
        CubeWorlds x = new CubeWorlds();
        // 1 by 1 is 2, 2 by 1 is 1, all else 0
        x.world(0, 2);
        x.put(0, 0, 0, 2);
        x.put(0, 1, 0, 1);
        due("11: 1 left", x.joins(0, 1, 0), 0);
        due("11: 0 left", x.joins(0, 0, 0), 1);
        due("11: 0 in the centre", x.joins(0, 0, 3), 1);
        // 1 by 1 is 1, 1 by 2 is 2: all join, but for 2 none turns about
        x.world(1, 2);
        x.put(1, 0, 0, 1);
        x.put(1, 0, 1, 2);
        for (int way = 0; way < 3; way++) {
            due("11: 1 joins", x.joins(1, 1, way), 1);
            due("11: 2 joins", x.joins(1, 2, way), 1);
        }
        due("11: 1 not in the centre", x.joins(1, 1, 3), 0);
        // only 1 by 2 is 1: what joins on one side need not on others
        x.world(2, 2);
        x.put(2, 0, 1, 1);
        for (int e = 1; e < 4; e++) {
            for (int way = 0; way < 4; way++) {
                due("11: " + e + " way " + way, x.joins(2, e, way), expected(e)[way]);
            }
        }
        for (int s : NO_SLOTS) {
            due("11: slot", x.joins(s, 0, 4), U);
        }
        due("11: x before way", x.joins(0, 4, 4), U);
        due("11: x -1", x.joins(0, -1, -1), U);
        due("11: way -1", x.joins(0, 0, -1), O);
        due("11: way 4", x.joins(0, 0, 4), O);
    }

    /** Of the world in which x by y is 1 if x has bit 0 and y has bit 1, else 0. */
    private static int[] expected(int x) {
        int[] all = {1, 1, 1, 1};
        for (int y = 0; y < 4; y++) {
            for (int z = 0; z < 4; z++) {
                int[][] orders = {{x, y, z}, {y, x, z}, {y, z, x}};
                for (int way = 0; way < 3; way++) {
                    int[] o = orders[way];
                    int right = by(o[0], by(o[1], o[2]));
                    int left = by(by(o[0], o[1]), o[2]);
                    if (right != left) {
                        all[way] = 0;
                        all[3] = 0;
                    }
                }
            }
            if (by(x, y) != by(y, x)) {
                all[3] = 0;
            }
        }
        return all;
    }

    private static int by(int x, int y) {
        return x & y >> 1 & 1;
    }

    private static void many() {
        for (int way = 0; way < 4; way++) {
            due("12: a field", field(4).many(0, way), 16);
        }
        CubeWorlds x = new CubeWorlds();
        x.world(2, 2);
        x.put(2, 0, 1, 1);
        for (int way = 0; way < 4; way++) {
            int count = 0;
            for (int e = 0; e < 4; e++) {
                count += expected(e)[way];
            }
            due("12: way " + way, x.many(2, way), count);
        }
        for (int s : NO_SLOTS) {
            due("12: slot first", x.many(s, 4), U);
        }
        due("12: way -1", x.many(0, -1), O);
        due("12: way 4", x.many(0, 4), O);
    }

    private static void unlike() {
        due("13: a field", field(4).unlike(0), 0);
        CubeWorlds x = new CubeWorlds();
        x.world(2, 2);
        x.put(2, 0, 1, 1);
        due("13: 1, 2, 3 with each other", x.unlike(2), 6);
        for (int s : NO_SLOTS) {
            due("13: slot", x.unlike(s), U);
        }
    }

    private static void map() {
        CubeWorlds x = new CubeWorlds();
        for (int m = 0; m < 3; m++) {
            due("14: at first", x.map(m, 3, 15 - m), 0);
            due("14: what it was", x.map(m, 3, 4), 15 - m);
        }
        for (int m : new int[] {-1, 3, Integer.MIN_VALUE, Integer.MAX_VALUE}) {
            due("14: map first", x.map(m, 4, 16), U);
        }
        due("14: i -1", x.map(0, -1, 0), O);
        due("14: i 4", x.map(0, 4, 0), O);
        due("14: v -1", x.map(0, 3, -1), O);
        due("14: v 16", x.map(0, 3, 16), O);
        due("14: refused changes nothing", x.map(0, 3, 0), 4);
    }

    private static void gives() {
        CubeWorlds x = new CubeWorlds();
        maps(x, 15, 2, 4, 9, 1, 2, 4, 8, 3, 3, 3, 3);
        due("15: 0", x.gives(0, 0), 0);
        due("15: 1", x.gives(0, 1), 15);
        due("15: 11", x.gives(0, 11), 15 ^ 2 ^ 9);
        due("15: map 1", x.gives(1, 13), 13);
        due("15: map 2", x.gives(2, 15), 0);
        due("15: map -1", x.gives(-1, 16), U);
        due("15: map 3", x.gives(3, -1), U);
        due("15: x -1", x.gives(0, -1), O);
        due("15: x 16", x.gives(0, 16), O);
    }

    private static void fits() {
        CubeWorlds x = new CubeWorlds();
        maps(x, 1, 3, 7, 15, 1, 2, 3, 8, 1, 2, 8, 4);
        for (int n = 1; n <= 4; n++) {
            due("16: map 0", x.fits(0, n), 1);
            due("16: map 1, 3 is the sum of 1 and 2", x.fits(1, n), n < 3 ? 1 : 0);
            due("16: map 2, 8 is no number of 3 bits", x.fits(2, n), n == 3 ? 0 : 1);
        }
        due("16: map -1", x.fits(-1, 0), U);
        due("16: map 3", x.fits(3, 5), U);
        due("16: n 0", x.fits(0, 0), O);
        due("16: n 5", x.fits(0, 5), O);
    }

    private static void alike() {
        CubeWorlds x = field(2);
        x.field(1, 2);
        due("17: maps that do not fit", x.alike(0, 1), 0);
        // x by y is (2 by x) by (3 by y), as 2 by 3 is 1
        maps(x, 2, 3, 3, 1, 1, 2);
        due("17: alike", x.alike(0, 1), 1);
        due("17: to itself", x.alike(0, 0), 1);
        // squares of a product are products of squares, and one map more spoils it
        maps(x, 1, 3, 1, 3, 1, 3);
        due("17: squares", x.alike(0, 1), 1);
        maps(x, 1, 3, 1, 3, 1, 2);
        due("17: not alike", x.alike(0, 1), 0);
        for (int m = 0; m < 3; m++) {
            CubeWorlds z = new CubeWorlds();
            z.world(0, 2);
            maps(z, 1, 2, 1, 2, 1, 2);
            due("17: all 0", z.alike(0, 0), 1);
            z.map(m, 1, 1);
            due("17: one map does not fit", z.alike(0, 0), 0);
        }
        CubeWorlds skewed = skew(1);
        maps(skewed, 2, 3, 1, 2, 1, 2);
        due("17: carried", skewed.carry(1, 0), 1);
        due("17: from a to b", skewed.alike(0, 1), 1);
        due("17: not from b to a", skewed.alike(1, 0), 0);
        for (int s : NO_SLOTS) {
            due("17: a", x.alike(s, 3), U);
            due("17: b", x.alike(0, s), U);
        }
        due("17: not of one n", x.alike(0, 3), S);
    }

    private static void carry() {
        CubeWorlds x = skew(0);
        maps(x, 2, 1, 3, 2, 1, 3);
        due("18: carry", x.carry(1, 0), 1);
        int[] first = {0, 2, 1, 3};
        int[] second = {0, 3, 2, 1};
        int[] third = {0, 1, 3, 2};
        for (int a = 0; a < 4; a++) {
            for (int b = 0; b < 4; b++) {
                due("18: " + a + " by " + b, x.product(1, first[a], second[b]), third[x.product(0, a, b)]);
            }
        }
        int before = x.product(1, 2, 3);
        due("18: onto itself", x.carry(0, 0), 1);
        due("18: as to another", x.product(0, 2, 3), before);
        for (int s : NO_SLOTS) {
            due("18: to", x.carry(s, 0), U);
            due("18: a", x.carry(0, s), U);
        }
        for (int m = 0; m < 3; m++) {
            int was = x.map(m, 0, 4);
            due("18: one does not fit", x.carry(3, 0), S);
            x.map(m, 0, was);
        }
        due("18: refused changes nothing", x.product(3, 2, 0), U);
        due("18: slot before fit", x.carry(4, 3), U);
        maps(x, 1, 1, 1);
        due("18: of one bit", x.carry(0, 3), 1);
        due("18: n is a's", x.product(0, 2, 0), U);
    }

    private static void ways() {
        int[] counts = {0, 1, 18, 147};
        CubeWorlds x = new CubeWorlds();
        for (int n = 1; n <= 3; n++) {
            x.field(0, n);
            x.field(1, n);
            due("19: fields", x.ways(0, 1), counts[n]);
            maps(x, 1, 3, 5, 1, 2, 4, 1, 2, 4);
            x.carry(1, 0);
            due("19: carried", x.ways(0, 1), counts[n]);
            due("19: itself", x.ways(1, 1), counts[n]);
        }
        x.field(2, 3);
        x.put(2, 0, 0, 0);
        due("19: b does not divide", x.ways(0, 2), S);
        due("19: a does not divide", x.ways(2, 0), S);
        x.field(3, 2);
        due("19: not of one n", x.ways(0, 3), S);
        x.field(0, 4);
        x.field(1, 4);
        due("19: n is 4", x.ways(0, 1), S);
        for (int s : NO_SLOTS) {
            due("19: a", x.ways(s, 2), U);
            due("19: b", x.ways(2, s), U);
        }
    }

    private static void on() {
        CubeWorlds x = skew(1);
        // N is 4: (x, y) is 4 x + y, ends 16 .. 19, the last point 20
        for (int point = 0; point <= 20; point++) {
            int a = point >> 2;
            int b = point & 3;
            due("20: line of steepness 2", x.on(0, point, 2 * 4 + 1),
                point == 18 || point < 16 && (x.product(0, 2, a) ^ 1) == b ? 1 : 0);
            due("20: upright", x.on(0, point, 17), point == 20 || point < 16 && a == 1 ? 1 : 0);
            due("20: last", x.on(0, point, 20), point >= 16 ? 1 : 0);
        }
        for (int s : NO_SLOTS) {
            due("20: slot", x.on(s, 0, 0), U);
        }
        due("20: point -1", x.on(0, -1, 0), U);
        due("20: point 21", x.on(0, 21, 0), U);
        due("20: line -1", x.on(0, 0, -1), U);
        due("20: line 21", x.on(0, 0, 21), U);
    }

    private static void join() {
        CubeWorlds x = skew(1);
        // m by 2 is 2, 1, 3 for m 1, 2, 3
        due("21: (0, 0), (2, 1)", x.join(0, 0, 9), 8);
        due("21: (2, 1), (0, 0)", x.join(0, 9, 0), 8);
        due("21: (1, 2), (1, 3)", x.join(0, 6, 7), 17);
        due("21: (2, 1), end of 3", x.join(0, 9, 19), 3 * 4 + (3 ^ 1));
        due("21: end of 3, (2, 1)", x.join(0, 19, 9), 3 * 4 + (3 ^ 1));
        due("21: (2, 1), last", x.join(0, 9, 20), 18);
        due("21: ends", x.join(0, 16, 19), 20);
        due("21: end, last", x.join(0, 20, 16), 20);
        x.world(0, 2);
        due("21: none", x.join(0, 0, 5), NONE);
        due("21: more than one", x.join(0, 0, 4), NONE);
        for (int s : NO_SLOTS) {
            due("21: slot", x.join(s, 0, 0), U);
        }
        due("21: a -1", x.join(0, -1, -1), U);
        due("21: b 21", x.join(0, 0, 21), U);
        due("21: 21 twice", x.join(0, 21, 21), U);
        due("21: both are one", x.join(0, 20, 20), S);
    }

    private static void meet() {
        CubeWorlds x = skew(1);
        // 2 by 1, 2, 3 is 3, 1, 2
        due("22: steepness 0, 2", x.meet(0, 0 * 4 + 1, 2 * 4 + 0), 2 * 4 + 1);
        due("22: steepness 2, 0", x.meet(0, 2 * 4 + 0, 0 * 4 + 1), 2 * 4 + 1);
        due("22: of one steepness", x.meet(0, 9, 10), 18);
        due("22: with upright", x.meet(0, 2 * 4 + 1, 17), 1 * 4 + (3 ^ 1));
        due("22: upright first", x.meet(0, 17, 2 * 4 + 1), 1 * 4 + (3 ^ 1));
        due("22: with last", x.meet(0, 9, 20), 18);
        due("22: uprights", x.meet(0, 16, 19), 20);
        due("22: upright, last", x.meet(0, 20, 16), 20);
        x.world(0, 2);
        due("22: none", x.meet(0, 0, 5), NONE);
        due("22: more than one", x.meet(0, 0, 4), NONE);
        for (int s : NO_SLOTS) {
            due("22: slot", x.meet(s, 0, 0), U);
        }
        due("22: a -1", x.meet(0, -1, -1), U);
        due("22: b 21", x.meet(0, 0, 21), U);
        due("22: 21 twice", x.meet(0, 21, 21), U);
        due("22: both are one", x.meet(0, 0, 0), S);
    }

    private static void bad() {
        CubeWorlds x = new CubeWorlds();
        for (int n = 1; n <= 4; n++) {
            x.field(0, n);
            due("23: a field", x.bad(0), 0);
            x.world(0, n);
            int size = 1 << n;
            due("23: all 0", x.bad(0), size * (size - 1) / 2 * size * size);
        }
        // 2 by 3 is 0 alone: pairs of steepness 0, 2 and 1, 3
        CubeWorlds y = skew(3);
        due("23: one that fails", y.bad(0), 2 * 16);
        for (int s : NO_SLOTS) {
            due("23: slot", x.bad(s), U);
        }
    }

    private static void rank() {
        CubeWorlds x = new CubeWorlds();
        x.world(0, 2);
        x.put(0, 0, 0, 1);
        x.put(0, 1, 0, 2);
        x.put(0, 0, 1, 3);
        due("24: of 0", x.rank(0, 0), 0);
        due("24: of 1", x.rank(0, 1), 2);
        due("24: of 2", x.rank(0, 2), 1);
        due("24: of a field", field(4).rank(0, 15), 4);
        due("24: of a field of 8", field(3).rank(0, 7), 3);
        for (int s : NO_SLOTS) {
            due("24: slot", x.rank(s, 0), U);
        }
        due("24: y -1", x.rank(0, -1), U);
        due("24: y 4", x.rank(0, 4), U);
    }

    private static void ranks() {
        CubeWorlds x = new CubeWorlds();
        x.world(0, 2);
        x.put(0, 0, 0, 1);
        x.put(0, 1, 0, 2);
        x.put(0, 0, 1, 3);
        // by 0: 0; by 1: 1, 2, 3; by 2: 3, 0, 3; by 3: 2, 2, 0
        int[] want = {1, 2, 1, 0, 0};
        for (int r = 0; r <= 4; r++) {
            due("25: r " + r, x.ranks(0, r), want[r]);
        }
        due("25: a field", field(4).ranks(0, 4), 15);
        for (int s : NO_SLOTS) {
            due("25: slot first", x.ranks(s, 5), U);
        }
        due("25: r -1", x.ranks(0, -1), O);
        due("25: r 5", x.ranks(0, 5), O);
    }

    private static void cubes() {
        CubeWorlds x = new CubeWorlds();
        x.field(0, 4);
        due("26: n 1", x.cubes(1), 1);
        due("26: n 2", x.cubes(2), 12);
        for (int n : new int[] {0, -1, 3, 5, Integer.MIN_VALUE, Integer.MAX_VALUE}) {
            due("26: n " + n, x.cubes(n), O);
        }
        due("26: it changes nothing", x.product(0, 8, 8), 12);
    }
}
