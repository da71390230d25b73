import java.lang.reflect.InvocationTargetException;
import java.lang.reflect.Method;
import java.lang.reflect.Modifier;
import java.util.Arrays;
import java.util.Comparator;
import java.util.stream.IntStream;

/** What the boundary tests share: cases run by their names, a scene, and what must not change behind a refused call. */
final class Cases {
    static final int U = CubeWorlds.UNKNOWN, O = CubeWorlds.OUTSIDE, S = CubeWorlds.STATE, NONE = CubeWorlds.NONE;

    /** The scene's slot s has the world of n = s + 1 of these products of bits, row by row; none has a one but slot 0's. */
    private static final int[][] CUBES = {
        {1},
        {1, 2, 3, 1},
        {1, 2, 4, 3, 5, 6, 7, 1, 2},
        {7, 13, 1, 14, 13, 1, 14, 10, 2, 5, 8, 9, 1, 14, 10, 12},
    };
    /** Maps 0 and 2 fit every n; map 1 fits every n but 1. */
    private static final int[][] MAPS = {{1, 3, 7, 15}, {2, 1, 4, 8}, {1, 2, 5, 9}};

    private static String current = "";
    private static int wrong = 0;

    private Cases() {
    }

    interface Call {
        int on(CubeWorlds x);
    }

    interface Case {
        void with(int value);
    }

    /** Runs the static methods whose names begin with "promise", each a case, in the order of their names. */
    static void runAll(Class<?> test) throws IllegalAccessException {
        Method[] all = test.getDeclaredMethods();
        Arrays.sort(all, Comparator.comparing(Method::getName));
        int count = 0;
        for (Method m : all) {
            if (m.getName().startsWith("promise") && Modifier.isStatic(m.getModifiers())) {
                count++;
                run(m);
            }
        }
        String end = wrong == 0 ? "all answers are as due" : wrong + " wrong";
        System.out.println(test.getName() + ": " + count + " cases, " + end);
        if (wrong != 0 || count == 0) {
            System.exit(1);
        }
    }

    private static void run(Method m) throws IllegalAccessException {
        current = m.getName();
        try {
            m.invoke(null);
        } catch (InvocationTargetException thrown) {
            tell("it threw " + thrown.getCause());
        }
    }

    private static void tell(String what) {
        wrong++;
        System.out.println(current + ": " + what);
    }

    static void due(String call, int got, int want) {
        if (got != want) {
            tell(call + " answered " + got + ", due is " + want);
        }
    }

    // ---- the scene

    static CubeWorlds scene() {
        CubeWorlds x = new CubeWorlds();
        for (int s = 0; s < 4; s++) {
            cube(x, s, s + 1, CUBES[s]);
        }
        for (int m = 0; m < 3; m++) {
            map(x, m, MAPS[m]);
        }
        return x;
    }

    static void cube(CubeWorlds x, int slot, int n, int... products) {
        x.world(slot, n);
        for (int i = 0; i < n; i++) {
            for (int j = 0; j < n; j++) {
                x.put(slot, i, j, products[i * n + j]);
            }
        }
    }

    static void map(CubeWorlds x, int map, int... numbers) {
        for (int i = 0; i < numbers.length; i++) {
            x.map(map, i, numbers[i]);
        }
    }

    static void maps(CubeWorlds x, int... numbers) {
        for (int m = 0; m < 3; m++) {
            map(x, m, numbers);
        }
    }

    /** The document's PRODUCT in a world of these products of bits. */
    static int times(int n, int[] products, int x, int y) {
        int sum = 0;
        for (int i = 0; i < n; i++) {
            for (int j = 0; j < n; j++) {
                sum ^= (x >> i & 1) * (y >> j & 1) * products[i * n + j];
            }
        }
        return sum;
    }

    static int timesInScene(int slot, int x, int y) {
        return times(slot + 1, CUBES[slot], x, y);
    }

    static int cellOfScene(int slot, int i, int j) {
        return CUBES[slot][i * (slot + 1) + j];
    }

    static int mapOfScene(int map, int i) {
        return MAPS[map][i];
    }

    /** Every n, 1 to 4: the scene's slot n - 1 has it. */
    static void forEachN(Case c) {
        for (int n = 1; n <= 4; n++) {
            c.with(n);
        }
    }

    // ---- a smaller world after a larger one

    /** What slot 0 had before: of each larger n, worlds with ones of their own, full ones, and some without a one. */
    private static Call[] largerThan(int n) {
        Call[] all = new Call[3 * (4 - n) * 2];
        int count = 0;
        for (int more = n + 1; more <= 4; more++) {
            int m = more;
            int[] full = new int[m * m];
            Arrays.fill(full, (1 << m) - 1);
            all[count++] = x -> had(x, m, CUBES[m - 1]);
            all[count++] = x -> had(x, m, full);
            all[count++] = x -> x.field(0, m) + x.ways(0, 0);
            for (int bit = 1; bit <= 3; bit++) {
                int one = Math.min(bit, m - 1);
                all[count++] = x -> fieldWithOne(x, m, one);
            }
        }
        return all;
    }

    private static int had(CubeWorlds x, int n, int[] products) {
        cube(x, 0, n, products);
        return 0;
    }

    /** A field with its numbers 1 and 2 to the bit changed about. */
    private static int fieldWithOne(CubeWorlds x, int n, int bit) {
        int[] names = {1, 2, 4, 8};
        names[0] = 1 << bit;
        names[bit] = 1;
        x.field(0, n);
        maps(x, names);
        return x.carry(0, 0);
    }

    /** Slot 0, of n 1 to 3, answers the same whether or not it had a larger world before; slot 1 has the same world. */
    static void whatALargerWorldLeftDoesNotCount(String call, Call c) {
        for (int n = 1; n <= 3; n++) {
            int[][] worlds = {new int[n * n], CUBES[n - 1], fieldCells(n)};
            for (int w = 0; w < worlds.length; w++) {
                int due = c.on(small(x -> 0, n, worlds[w]));
                Call[] before = largerThan(n);
                for (int b = 0; b < before.length; b++) {
                    String at = call + " of n " + n + ", world " + w + ", after " + b;
                    due(at, c.on(small(before[b], n, worlds[w])), due);
                }
            }
        }
    }

    private static CubeWorlds small(Call before, int n, int[] products) {
        CubeWorlds x = new CubeWorlds();
        before.on(x);
        cube(x, 0, n, products);
        cube(x, 1, n, products);
        maps(x, 1, 2, 4, 8);
        return x;
    }

    private static int[] fieldCells(int n) {
        CubeWorlds x = new CubeWorlds();
        x.field(0, n);
        int[] cells = new int[n * n];
        for (int place = 0; place < cells.length; place++) {
            cells[place] = x.product(0, 1 << place / n, 1 << place % n);
        }
        return cells;
    }

    // ---- refusals

    /** Numbers that are not in least .. most: next to it, far from it, and such as wrap round into it. */
    static int[] outOf(int least, int most) {
        int[] near = {least - 1, least - 2, most + 1, most + 2, most + 3, -most - 1, 2 * most + 2};
        int[] far = {16, 31, 32 + least, 64 + most, 256 + least, 65536 + most, Integer.MIN_VALUE,
            Integer.MIN_VALUE + least, Integer.MIN_VALUE + most, Integer.MAX_VALUE, Integer.MAX_VALUE - 3};
        return IntStream.concat(Arrays.stream(near), Arrays.stream(far))
            .filter(v -> v < least || v > most).distinct().toArray();
    }

    static void forEachOutOf(int least, int most, Case c) {
        for (int v : outOf(least, most)) {
            c.with(v);
        }
    }

    static void forEachNoSlot(Case c) {
        forEachOutOf(0, 3, c);
    }

    /** A call that the scene refuses: its answer, and that nothing has changed. */
    static void refused(String call, int want, Call c) {
        refusedAfter(x -> 0, call, want, c);
    }

    /** A call that is refused after a few others (some thirty at most, so that an object stays below 512 calls). */
    static void refusedAfter(Call before, String call, int want, Call c) {
        changesNothing(before, call, want, c);
    }

    /** A call that only asks. */
    static void asks(String call, int want, Call c) {
        changesNothing(x -> 0, call, want, c);
    }

    private static void changesNothing(Call before, String call, int want, Call c) {
        CubeWorlds untouched = scene();
        before.on(untouched);
        CubeWorlds touched = scene();
        before.on(touched);
        due(call, c.on(touched), want);
        int[] due = all(untouched);
        int[] got = all(touched);
        if (!Arrays.equals(due, got)) {
            tell(call + " changed something: " + Arrays.toString(due) + " to " + Arrays.toString(got));
        }
    }

    static int sizeOf(CubeWorlds x, int slot) {
        int size = 2;
        while (size < 16 && x.product(slot, size, 0) != U) {
            size *= 2;
        }
        return size;
    }

    /** All that an object tells of its worlds and maps: numbers, products, cubes, and rows of maps. */
    static int[] all(CubeWorlds x) {
        IntStream.Builder told = IntStream.builder();
        for (int s = 0; s < 4; s++) {
            int size = sizeOf(x, s);
            told.add(size);
            for (int a = 0; a < size; a++) {
                for (int b = 0; b < size; b++) {
                    told.add(x.product(s, a, b));
                }
            }
            for (int i = 0; 1 << i < size; i++) {
                for (int j = 0; 1 << j < size; j++) {
                    told.add(x.put(s, i, j, 0));
                }
            }
        }
        for (int m = 0; m < 3; m++) {
            for (int i = 0; i < 4; i++) {
                told.add(x.map(m, i, 0));
            }
        }
        return told.build().toArray();
    }
}
