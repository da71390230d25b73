import java.util.ArrayList;
import java.util.List;

/** The document word by word, with no thought of speed: what CubeWorlds is held against. */
final class Model {
    static final int UNKNOWN = -1, OUTSIDE = -2, STATE = -3, NONE = -9;

    private final int[] ns = {1, 1, 1, 1};
    private final int[][][] cubes = new int[4][4][4];
    private final int[][] maps = new int[3][4];

    Model() {
        for (int s = 0; s < 4; s++) {
            cubes[s][0][0] = 1;
        }
    }

    private static boolean slot(int s) {
        return s >= 0 && s <= 3;
    }

    private int numbers(int s) {
        return 1 << ns[s];
    }

    private boolean number(int s, int x) {
        return x >= 0 && x < numbers(s);
    }

    private static int times(int[][] cube, int n, int x, int y) {
        int sum = 0;
        for (int i = 0; i < n; i++) {
            for (int j = 0; j < n; j++) {
                if ((x & (1 << i)) != 0 && (y & (1 << j)) != 0) {
                    sum ^= cube[i][j];
                }
            }
        }
        return sum;
    }

    private int times(int s, int x, int y) {
        return times(cubes[s], ns[s], x, y);
    }

    private static boolean whole(int[][] cube, int n) {
        for (int x = 1; x < 1 << n; x++) {
            for (int y = 1; y < 1 << n; y++) {
                if (times(cube, n, x, y) == 0) {
                    return false;
                }
            }
        }
        return true;
    }

    int world(int s, int n) {
        if (!slot(s)) return UNKNOWN;
        if (n < 1 || n > 4) return OUTSIDE;
        ns[s] = n;
        cubes[s] = new int[4][4];
        return 1 << n;
    }

    int put(int s, int i, int j, int v) {
        if (!slot(s) || !number(s, v)) return UNKNOWN;
        if (i < 0 || i >= ns[s] || j < 0 || j >= ns[s]) return OUTSIDE;
        int was = cubes[s][i][j];
        cubes[s][i][j] = v;
        return was;
    }

    int field(int s, int n) {
        if (!slot(s)) return UNKNOWN;
        if (n < 1 || n > 4) return OUTSIDE;
        int[] less = {0, 3, 0b111, 0b1011, 0b10011};
        ns[s] = n;
        for (int i = 0; i < n; i++) {
            for (int j = 0; j < n; j++) {
                int p = 1 << i + j;
                while (p >= 1 << n) {
                    int up = (31 - Integer.numberOfLeadingZeros(p)) - n;
                    p ^= less[n] << up;
                }
                cubes[s][i][j] = p;
            }
        }
        return 1 << n;
    }

    int product(int s, int x, int y) {
        if (!slot(s) || !number(s, x) || !number(s, y)) return UNKNOWN;
        return times(s, x, y);
    }

    int divides(int s) {
        if (!slot(s)) return UNKNOWN;
        return whole(cubes[s], ns[s]) ? 1 : 0;
    }

    int broken(int s, boolean second) {
        if (!slot(s)) return UNKNOWN;
        for (int x = 1; x < numbers(s); x++) {
            for (int y = 1; y < numbers(s); y++) {
                if (times(s, x, y) == 0) return second ? y : x;
            }
        }
        return NONE;
    }

    int one(int s) {
        if (!slot(s)) return UNKNOWN;
        for (int e = 0; e < numbers(s); e++) {
            boolean is = true;
            for (int x = 0; x < numbers(s); x++) {
                is &= times(s, e, x) == x && times(s, x, e) == x;
            }
            if (is) return e;
        }
        return NONE;
    }

    int quotient(int s, int x, int z, boolean left) {
        if (!slot(s) || !number(s, x) || !number(s, z)) return UNKNOWN;
        List<Integer> all = new ArrayList<>();
        for (int y = 0; y < numbers(s); y++) {
            if ((left ? times(s, x, y) : times(s, y, x)) == z) all.add(y);
        }
        return all.size() == 1 ? all.get(0) : NONE;
    }

    int turn(int to, int s, int t) {
        if (!slot(to) || !slot(s)) return UNKNOWN;
        if (t < 0 || t > 5) return OUTSIDE;
        int n = ns[s];
        int[][] c = cubes[s];
        int[][] d = new int[4][4];
        int[] at = new int[3];
        String[] orders = {"ijk", "ikj", "jik", "jki", "kij", "kji"};
        for (int i = 0; i < n; i++) {
            for (int j = 0; j < n; j++) {
                for (int k = 0; k < n; k++) {
                    for (int p = 0; p < 3; p++) {
                        char letter = orders[t].charAt(p);
                        at[p] = letter == 'i' ? i : letter == 'j' ? j : k;
                    }
                    d[i][j] |= (c[at[0]][at[1]] >> at[2] & 1) << k;
                }
            }
        }
        ns[to] = n;
        cubes[to] = d;
        return 1;
    }

    private boolean does(int s, int x, int way) {
        if (way == 3) {
            for (int y = 0; y < numbers(s); y++) {
                if (times(s, x, y) != times(s, y, x)) return false;
            }
            return does(s, x, 0) && does(s, x, 1) && does(s, x, 2);
        }
        for (int y = 0; y < numbers(s); y++) {
            for (int z = 0; z < numbers(s); z++) {
                int a;
                int b;
                if (way == 0) {
                    a = times(s, x, times(s, y, z));
                    b = times(s, times(s, x, y), z);
                } else if (way == 1) {
                    a = times(s, y, times(s, x, z));
                    b = times(s, times(s, y, x), z);
                } else {
                    a = times(s, y, times(s, z, x));
                    b = times(s, times(s, y, z), x);
                }
                if (a != b) return false;
            }
        }
        return true;
    }

    int joins(int s, int x, int way) {
        if (!slot(s) || !number(s, x)) return UNKNOWN;
        if (way < 0 || way > 3) return OUTSIDE;
        return does(s, x, way) ? 1 : 0;
    }

    int many(int s, int way) {
        if (!slot(s)) return UNKNOWN;
        if (way < 0 || way > 3) return OUTSIDE;
        int count = 0;
        for (int x = 0; x < numbers(s); x++) {
            if (does(s, x, way)) count++;
        }
        return count;
    }

    int unlike(int s) {
        if (!slot(s)) return UNKNOWN;
        int count = 0;
        for (int x = 0; x < numbers(s); x++) {
            for (int y = 0; y < numbers(s); y++) {
                if (times(s, x, y) != times(s, y, x)) count++;
            }
        }
        return count;
    }

    int map(int m, int i, int v) {
        if (m < 0 || m > 2) return UNKNOWN;
        if (i < 0 || i > 3 || v < 0 || v > 15) return OUTSIDE;
        int was = maps[m][i];
        maps[m][i] = v;
        return was;
    }

    private static int of(int[] row, int x) {
        int sum = 0;
        for (int i = 0; i < 4; i++) {
            if ((x & (1 << i)) != 0) sum ^= row[i];
        }
        return sum;
    }

    int gives(int m, int x) {
        if (m < 0 || m > 2) return UNKNOWN;
        if (x < 0 || x > 15) return OUTSIDE;
        return of(maps[m], x);
    }

    private static boolean fit(int[] row, int n) {
        int[] times = new int[16];
        for (int x = 0; x < 1 << n; x++) {
            times[of(row, x)]++;
        }
        for (int x = 0; x < 1 << n; x++) {
            if (times[x] != 1) return false;
        }
        return true;
    }

    int fits(int m, int n) {
        if (m < 0 || m > 2) return UNKNOWN;
        if (n < 1 || n > 4) return OUTSIDE;
        return fit(maps[m], n) ? 1 : 0;
    }

    int alike(int a, int b) {
        if (!slot(a) || !slot(b)) return UNKNOWN;
        if (ns[a] != ns[b]) return STATE;
        for (int[] row : maps) {
            if (!fit(row, ns[a])) return 0;
        }
        for (int x = 0; x < numbers(a); x++) {
            for (int y = 0; y < numbers(a); y++) {
                if (times(b, of(maps[0], x), of(maps[1], y)) != of(maps[2], times(a, x, y))) return 0;
            }
        }
        return 1;
    }

    int carry(int to, int a) {
        if (!slot(to) || !slot(a)) return UNKNOWN;
        int n = ns[a];
        for (int[] row : maps) {
            if (!fit(row, n)) return STATE;
        }
        int[][] d = new int[4][4];
        for (int x = 0; x < 1 << n; x++) {
            for (int y = 0; y < 1 << n; y++) {
                for (int i = 0; i < n; i++) {
                    for (int j = 0; j < n; j++) {
                        if (of(maps[0], x) == 1 << i && of(maps[1], y) == 1 << j) {
                            d[i][j] = of(maps[2], times(a, x, y));
                        }
                    }
                }
            }
        }
        ns[to] = n;
        cubes[to] = d;
        return 1;
    }

    private static List<int[]> fitting(int n) {
        List<int[]> all = new ArrayList<>();
        for (int code = 0; code < 1 << n * n; code++) {
            int[] row = new int[4];
            for (int i = 0; i < n; i++) {
                row[i] = code >> i * n & (1 << n) - 1;
            }
            if (fit(row, n)) all.add(row);
        }
        return all;
    }

    int ways(int a, int b) {
        if (!slot(a) || !slot(b)) return UNKNOWN;
        int n = ns[a];
        if (n != ns[b] || n == 4) return STATE;
        if (!whole(cubes[a], n) || !whole(cubes[b], n)) return STATE;
        int[][] given = fitting(n).stream().map(row -> images(row, n)).toArray(int[][]::new);
        int size = 1 << n;
        int[][] inA = products(a);
        int[][] inB = products(b);
        int count = 0;
        for (int[] first : given) {
            for (int[] second : given) {
                for (int[] third : given) {
                    boolean all = true;
                    for (int x = 1; x < size && all; x++) {
                        for (int y = 1; y < size && all; y++) {
                            all = inB[first[x]][second[y]] == third[inA[x][y]];
                        }
                    }
                    if (all) count++;
                }
            }
        }
        return count;
    }

    private static int[] images(int[] row, int n) {
        int[] all = new int[1 << n];
        for (int x = 0; x < all.length; x++) {
            all[x] = of(row, x);
        }
        return all;
    }

    private int[][] products(int s) {
        int[][] all = new int[numbers(s)][numbers(s)];
        for (int x = 0; x < all.length; x++) {
            for (int y = 0; y < all.length; y++) {
                all[x][y] = times(s, x, y);
            }
        }
        return all;
    }

    private boolean place(int s, int p) {
        int size = numbers(s);
        return p >= 0 && p <= size * size + size;
    }

    private boolean lies(int s, int point, int line) {
        int size = numbers(s);
        int all = size * size;
        List<Integer> points = new ArrayList<>();
        if (line < all) {
            int m = line / size;
            int b = line % size;
            for (int x = 0; x < size; x++) {
                points.add(x * size + (times(s, m, x) ^ b));
            }
            points.add(all + m);
        } else if (line < all + size) {
            for (int y = 0; y < size; y++) {
                points.add((line - all) * size + y);
            }
            points.add(all + size);
        } else {
            for (int m = 0; m < size; m++) {
                points.add(all + m);
            }
            points.add(all + size);
        }
        return points.contains(point);
    }

    int on(int s, int point, int line) {
        if (!slot(s) || !place(s, point) || !place(s, line)) return UNKNOWN;
        return lies(s, point, line) ? 1 : 0;
    }

    int join(int s, int a, int b) {
        if (!slot(s) || !place(s, a) || !place(s, b)) return UNKNOWN;
        if (a == b) return STATE;
        List<Integer> lines = new ArrayList<>();
        for (int line = 0; place(s, line); line++) {
            if (lies(s, a, line) && lies(s, b, line)) lines.add(line);
        }
        return lines.size() == 1 ? lines.get(0) : NONE;
    }

    int meet(int s, int a, int b) {
        if (!slot(s) || !place(s, a) || !place(s, b)) return UNKNOWN;
        if (a == b) return STATE;
        List<Integer> points = new ArrayList<>();
        for (int point = 0; place(s, point); point++) {
            if (lies(s, point, a) && lies(s, point, b)) points.add(point);
        }
        return points.size() == 1 ? points.get(0) : NONE;
    }

    int bad(int s) {
        if (!slot(s)) return UNKNOWN;
        int places = numbers(s) * numbers(s) + numbers(s) + 1;
        boolean[][] has = new boolean[places][places];
        for (int line = 0; line < places; line++) {
            for (int point = 0; point < places; point++) {
                has[line][point] = lies(s, point, line);
            }
        }
        int count = 0;
        for (int a = 0; a < places; a++) {
            for (int b = a + 1; b < places; b++) {
                int both = 0;
                for (int point = 0; point < places; point++) {
                    if (has[a][point] && has[b][point]) both++;
                }
                if (both != 1) count++;
            }
        }
        return count;
    }

    private int rankOf(int s, int y) {
        boolean[] given = new boolean[16];
        int unlike = 0;
        for (int x = 0; x < numbers(s); x++) {
            int p = times(s, x, y);
            if (!given[p]) unlike++;
            given[p] = true;
        }
        return unlike == 1 ? 0 : unlike == 2 ? 1 : unlike == 4 ? 2 : unlike == 8 ? 3 : 4;
    }

    int rank(int s, int y) {
        if (!slot(s) || !number(s, y)) return UNKNOWN;
        return rankOf(s, y);
    }

    int ranks(int s, int r) {
        if (!slot(s)) return UNKNOWN;
        if (r < 0 || r > 4) return OUTSIDE;
        int count = 0;
        for (int y = 0; y < numbers(s); y++) {
            if (rankOf(s, y) == r) count++;
        }
        return count;
    }

    int cubes(int n) {
        if (n < 1 || n > 2) return OUTSIDE;
        int count = 0;
        int[] v = new int[4];
        int size = 1 << n;
        int most = n == 1 ? 1 : size;
        for (v[0] = 0; v[0] < size; v[0]++) {
            for (v[1] = 0; v[1] < most; v[1]++) {
                for (v[2] = 0; v[2] < most; v[2]++) {
                    for (v[3] = 0; v[3] < most; v[3]++) {
                        int[][] cube = {{v[0], v[1]}, {v[2], v[3]}};
                        if (whole(cube, n)) count++;
                    }
                }
            }
        }
        return count;
    }
}
