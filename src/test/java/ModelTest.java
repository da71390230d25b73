import java.util.Random;

/** Long runs of calls, right and wrong ones mixed, each answer held against Model. */
public final class ModelTest {
    private static final int RUNS = 120;
    /** An object answers 512 calls; one step takes two at most. */
    private static final int MOST_CALLS = 512;
    private static final int KINDS = 25;
    private static final int[] ODD = {-1, -2, 4, 5, 6, 16, 17, 273, 1 << 16, Integer.MAX_VALUE, Integer.MIN_VALUE};

    private final Random random;
    private final CubeWorlds real = new CubeWorlds();
    private final Model model = new Model();
    /** How many calls the object has had. */
    private int calls = 0;
    /** What dear calls of the model may still be made in this run. */
    private int dear = 6;

    private ModelTest(long seed) {
        random = new Random(seed);
    }

    public static void main(String[] args) {
        int wrong = 0;
        for (int run = 0; run < RUNS; run++) {
            wrong += new ModelTest(run).run(run);
        }
        wrong += everyPlace();
        System.out.println(wrong == 0 ? "ModelTest: all answers are as due" : "ModelTest: " + wrong + " wrong");
        if (wrong != 0) {
            System.exit(1);
        }
    }

    private int run(int run) {
        int wrong = 0;
        start();
        for (int step = 0; step < MOST_CALLS && calls + 2 <= MOST_CALLS; step++) {
            int kind = random.nextInt(KINDS + 15);
            // a world of one's own, or a map, comes of many puts
            if (kind >= KINDS) {
                kind = kind < KINDS + 9 ? 1 : 12;
            }
            String name = one(kind);
            if (name != null) {
                wrong++;
                System.out.println("run " + run + ", call " + calls + ": " + name);
            }
        }
        return wrong;
    }

    /** Half of the runs have worlds of one n, so that likeness is not mostly refused. */
    private void start() {
        int n = 1 + random.nextInt(4);
        for (int s = 0; s < 4 && random.nextInt(8) != 0; s++) {
            real.field(s, n);
            model.field(s, n);
            calls++;
        }
        for (int m = 0; m < 3; m++) {
            for (int i = 0; i < 4; i++) {
                int v = 1 << i | random.nextInt(1 << i);
                real.map(m, i, v);
                model.map(m, i, v);
                calls++;
            }
        }
    }

    private int pick(int most) {
        return random.nextInt(30) == 0 ? ODD[random.nextInt(ODD.length)] : random.nextInt(most);
    }

    private int slot() {
        return pick(4);
    }

    private int number(int s) {
        int n = model.product(s, 8, 0) == 0 ? 16 : model.product(s, 4, 0) == 0 ? 8
            : model.product(s, 2, 0) == 0 ? 4 : 2;
        return pick(n);
    }

    private int bitOf(int s) {
        return pick(model.product(s, 8, 0) == 0 ? 4 : model.product(s, 4, 0) == 0 ? 3 : 2);
    }

    private int place(int s) {
        int most = 0;
        while (model.on(s, most, 0) >= 0) {
            most += 1;
        }
        return pick(most + 1);
    }

    private String told(String call, int got, int want) {
        calls++;
        return got == want ? null : call + " answered " + got + ", due is " + want;
    }

    private String one(int kind) {
        return kind < 12 ? ofWorlds(kind) : kind < 18 ? ofMaps(kind) : ofPlanes(kind);
    }

    private String ofWorlds(int kind) {
        int s = slot();
        int x = number(s);
        int y = number(s);
        int i = bitOf(s);
        int j = bitOf(s);
        int n = 1 + pick(4);
        boolean yes = random.nextBoolean();
        String at = "(" + s + ", " + x + ", " + y + ", " + i + ", " + j + ", " + n + ", " + yes + ")";
        switch (kind) {
            case 0: return random.nextInt(8) != 0 ? null
                : told("world" + at, real.world(s, n), model.world(s, n));
            case 1: return told("put" + at, real.put(s, i, j, x), model.put(s, i, j, x));
            case 2: return random.nextInt(4) != 0 ? null
                : told("field" + at, real.field(s, n), model.field(s, n));
            case 3: return told("product" + at, real.product(s, x, y), model.product(s, x, y));
            case 4: return told("divides" + at, real.divides(s), model.divides(s));
            case 5: return told("broken" + at, real.broken(s, yes), model.broken(s, yes));
            case 6: return told("one" + at, real.one(s), model.one(s));
            case 7: return told("quotient" + at, real.quotient(s, x, y, yes), model.quotient(s, x, y, yes));
            case 8: {
                int to = slot();
                int t = pick(6);
                return told("turn " + to + " " + t + at, real.turn(to, s, t), model.turn(to, s, t));
            }
            case 9: {
                int way = pick(4);
                return told("joins " + way + at, real.joins(s, x, way), model.joins(s, x, way));
            }
            case 10: {
                int way = pick(4);
                return told("many " + way + at, real.many(s, way), model.many(s, way));
            }
            default: return told("unlike" + at, real.unlike(s), model.unlike(s));
        }
    }

    private String ofMaps(int kind) {
        int a = slot();
        int b = slot();
        int m = pick(3);
        int i = pick(4);
        int v = random.nextInt(3) == 0 ? pick(16) : 1 << pick(4);
        int n = 1 + pick(4);
        String at = "(" + a + ", " + b + ", " + m + ", " + i + ", " + v + ", " + n + ")";
        switch (kind) {
            case 12: return told("map" + at, real.map(m, i, v), model.map(m, i, v));
            case 13: {
                int x = pick(16);
                return told("gives " + x + at, real.gives(m, x), model.gives(m, x));
            }
            case 14: return told("fits" + at, real.fits(m, n), model.fits(m, n));
            case 15: return told("alike" + at, real.alike(a, b), model.alike(a, b));
            case 16: {
                String carried = told("carry" + at, real.carry(b, a), model.carry(b, a));
                return carried != null ? carried
                    : told("alike of carried" + at, real.alike(a, b), model.alike(a, b));
            }
            default: {
                int due = real.ways(a, b);
                // the model's own count for n of 3 is made a few times only
                if (due > 100 && dear-- <= 0) {
                    return told("ways" + at, due, 147);
                }
                return told("ways" + at, due, model.ways(a, b));
            }
        }
    }

    private String ofPlanes(int kind) {
        int s = slot();
        int a = place(s);
        int b = place(s);
        int y = number(s);
        String at = "(" + s + ", " + a + ", " + b + ", " + y + ")";
        switch (kind) {
            case 18: return told("on" + at, real.on(s, a, b), model.on(s, a, b));
            case 19: return told("join" + at, real.join(s, a, b), model.join(s, a, b));
            case 20: return told("meet" + at, real.meet(s, a, b), model.meet(s, a, b));
            case 21: return dear-- <= 0 ? null : told("bad" + at, real.bad(s), model.bad(s));
            case 22: return told("rank" + at, real.rank(s, y), model.rank(s, y));
            case 23: {
                int r = pick(5);
                return told("ranks " + r + at, real.ranks(s, r), model.ranks(s, r));
            }
            default: {
                int n = pick(4);
                return told("cubes " + n, real.cubes(n), model.cubes(n));
            }
        }
    }

    /** Every pair of places of planes of each n, of worlds that divide and that do not. */
    private static int everyPlace() {
        int wrong = 0;
        for (int n = 1; n <= 3; n++) {
            for (int spoil = 0; spoil < 3; spoil++) {
                int places = (1 << 2 * n) + (1 << n) + 1;
                for (int a = -1; a <= places; a++) {
                    wrong += everyPlaceWith(n, spoil, a, places);
                }
            }
        }
        return wrong;
    }

    private static int everyPlaceWith(int n, int spoil, int a, int places) {
        CubeWorlds real = new CubeWorlds();
        Model model = new Model();
        real.field(1, n);
        model.field(1, n);
        if (spoil > 0) {
            real.put(1, n - 1, 0, spoil - 1);
            model.put(1, n - 1, 0, spoil - 1);
        }
        int wrong = 0;
        for (int b = -1; b <= places; b++) {
            boolean same = real.on(1, a, b) == model.on(1, a, b)
                && real.join(1, a, b) == model.join(1, a, b)
                && real.meet(1, a, b) == model.meet(1, a, b);
            if (!same) {
                wrong++;
                System.out.println("n " + n + ", spoil " + spoil + ": places " + a + ", " + b);
            }
        }
        return wrong;
    }
}
