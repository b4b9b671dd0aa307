import java.util.ArrayList;
import java.util.Arrays;
import java.util.HashMap;
import java.util.LinkedHashSet;
import java.util.List;
import java.util.Map;
import java.util.Set;

/**
 * The document once more, in other ways than the program's: forms are changed by multiplying out, an orbit is what
 * every matrix of the group makes of a form, roots are found by moving the point to the edge, ways backwards from
 * their end.
 */
final class Plain {
    private int p = 5;
    private final List<int[]> forms = new ArrayList<>();
    private final List<int[]> generators = new ArrayList<>();
    private List<int[]> group;
    private final Map<Integer, Integer> orbitCounts = new HashMap<>();

    Plain() {
        close();
    }

    // ---- the calls

    int prime(int to) {
        if (to != 2 && to != 3 && to != 5) {
            throw new IllegalArgumentException();
        }
        int was = p;
        p = to;
        forms.clear();
        generators.clear();
        close();
        return was;
    }

    int form(int degree, int code) {
        if (degree < 1 || degree > 4 || code < 0 || code >= count(degree)) {
            throw new IllegalArgumentException();
        }
        if (forms.size() == 20) {
            throw new IllegalStateException();
        }
        forms.add(coefficients(degree, code));
        return forms.size() - 1;
    }

    int formIs(int form, int what) {
        int[] f = pick(form);
        switch (what) {
            case 0: return f.length - 1;
            case 1: return code(f);
            case 2: {
                int roots = 0;
                for (int t = 0; t <= p; t++) roots += times(f, t) > 0 ? 1 : 0;
                return roots;
            }
            case 3: {
                boolean nil = false;
                for (int t = 0; t <= p; t++) nil |= 2 * times(f, t) > f.length - 1;
                return nil ? 1 : 0;
            }
            case 4: return fixed(f) ? 1 : 0;
            case 5: return orbit(f).size();
            case 6: {
                int least = Integer.MAX_VALUE;
                for (int c : orbit(f)) least = Math.min(least, c);
                return least;
            }
            default: throw new IllegalArgumentException();
        }
    }

    int at(int form, int x, int y) {
        int[] f = pick(form);
        if (x < 0 || x >= p || y < 0 || y >= p) {
            throw new IllegalArgumentException();
        }
        int all = 0;
        for (int i = 0; i < f.length; i++) {
            int part = f[i];
            for (int k = 0; k < f.length - 1 - i; k++) part *= x;
            for (int k = 0; k < i; k++) part *= y;
            all += part;
        }
        return all % p;
    }

    int multiplicity(int form, int point) {
        int[] f = pick(form);
        if (point < 0 || point > p) {
            throw new IndexOutOfBoundsException();
        }
        return times(f, point);
    }

    int generator(int a, int b, int c, int d) {
        for (int n : new int[] {a, b, c, d}) {
            if (n < 0 || n >= p) throw new IllegalArgumentException();
        }
        if ((a * d - b * c) % p == 0) {
            throw new IllegalArgumentException();
        }
        if (generators.size() == 4) {
            throw new IllegalStateException();
        }
        generators.add(new int[] {a, b, c, d});
        close();
        return generators.size() - 1;
    }

    int order() {
        return group.size();
    }

    int changed(int form, int generator) {
        int[] f = pick(form);
        if (generator < 0 || generator >= generators.size()) {
            throw new IndexOutOfBoundsException();
        }
        return code(change(f, generators.get(generator)));
    }

    int average(int form) {
        int[] f = pick(form);
        if (group.size() % p == 0) {
            return -1;
        }
        int[] sum = new int[f.length];
        for (int[] m : group) {
            int[] g = change(f, m);
            for (int i = 0; i < sum.length; i++) sum[i] += g[i];
        }
        int number = 0;
        while (number * group.size() % p != 1) number++;
        for (int i = 0; i < sum.length; i++) sum[i] = sum[i] * number % p;
        return code(sum);
    }

    int dimension(int degree) {
        checkDegree(degree);
        int fixed = 0;
        for (int code = 0; code < count(degree); code++) {
            if (fixed(coefficients(degree, code))) fixed++;
        }
        int k = 0;
        while (fixed > 1) {
            if (fixed % p != 0) throw new Error("no power of the prime");
            fixed /= p;
            k++;
        }
        return k;
    }

    int transvectant(int form, int other, int k) {
        int[] f = pick(form);
        int[] g = pick(other);
        int degree = f.length + g.length - 2 - 2 * k;
        if (k < 0 || k >= f.length || k >= g.length || degree < 1 || degree > 4) {
            throw new IllegalArgumentException();
        }
        int[] sum = new int[degree + 1];
        int[] ways = {1};
        for (int i = 0; i < k; i++) ways = times(ways, new int[] {1, 1});
        for (int i = 0; i <= k; i++) {
            int[] left = f;
            int[] right = g;
            for (int n = 0; n < k - i; n++) left = byX(left);
            for (int n = 0; n < i; n++) left = byY(left);
            for (int n = 0; n < i; n++) right = byX(right);
            for (int n = 0; n < k - i; n++) right = byY(right);
            int[] product = times(left, right);
            for (int j = 0; j <= degree; j++) {
                sum[j] += (i % 2 == 0 ? 1 : -1) * ways[i] * product[j];
            }
        }
        return code(sum);
    }

    int value(int form, int which) {
        int[] f = pick(form);
        int has = f.length == 5 ? 2 : f.length == 2 ? 0 : 1;
        if (which < 0 || which >= has) {
            throw new IllegalArgumentException();
        }
        return Math.floorMod(valueOf(f, which), p);
    }

    boolean weighs() {
        // What the document tells of the values holds over whole numbers, so that it never fails.
        return true;
    }

    int way(int form, int other) {
        int[] f = pick(form);
        int[] g = pick(other);
        if (f.length != g.length) {
            throw new IllegalArgumentException();
        }
        Integer steps = distances(f.length - 1, code(g)).get(code(f));
        return steps == null ? -1 : steps;
    }

    int step(int form, int other, int step) {
        int[] f = pick(form);
        int[] g = pick(other);
        if (f.length != g.length || step < 0) {
            throw new IllegalArgumentException();
        }
        Map<Integer, Integer> left = distances(f.length - 1, code(g));
        Integer all = left.get(code(f));
        if (all == null || step >= all) {
            return -1;
        }
        int[] here = f;
        for (int s = 0; ; s++) {
            int by = 0;
            while (left.get(code(change(here, generators.get(by)))) != all - s - 1) by++;
            if (s == step) return by;
            here = change(here, generators.get(by));
        }
    }

    int orbits(int degree) {
        checkDegree(degree);
        Integer known = orbitCounts.get(degree);
        if (known == null) {
            known = countOrbits(degree);
            orbitCounts.put(degree, known);
        }
        return known;
    }

    // ---- what they need

    private void checkDegree(int degree) {
        if (degree < 1 || degree > 4) throw new IllegalArgumentException();
    }

    private int[] pick(int form) {
        if (form < 0 || form >= forms.size()) throw new IndexOutOfBoundsException();
        return forms.get(form);
    }

    private int count(int degree) {
        return (int) Math.round(Math.pow(p, degree + 1));
    }

    private int[] coefficients(int degree, int code) {
        int[] f = new int[degree + 1];
        for (int i = 0; i <= degree; i++, code /= p) f[i] = code % p;
        return f;
    }

    private int code(int[] f) {
        int code = 0;
        for (int i = f.length - 1; i >= 0; i--) code = code * p + Math.floorMod(f[i], p);
        return code;
    }

    private static int[] times(int[] f, int[] g) {
        int[] product = new int[f.length + g.length - 1];
        for (int i = 0; i < f.length; i++) {
            for (int j = 0; j < g.length; j++) product[i + j] += f[i] * g[j];
        }
        return product;
    }

    private int[] change(int[] f, int[] m) {
        int n = f.length - 1;
        int[] all = new int[n + 1];
        for (int i = 0; i <= n; i++) {
            int[] part = {f[i]};
            for (int k = 0; k < n - i; k++) part = times(part, new int[] {m[0], m[1]});
            for (int k = 0; k < i; k++) part = times(part, new int[] {m[2], m[3]});
            for (int k = 0; k <= n; k++) all[k] += part[k];
        }
        for (int k = 0; k <= n; k++) all[k] %= p;
        return all;
    }

    private static int[] byX(int[] f) {
        int[] g = new int[f.length - 1];
        for (int i = 0; i < g.length; i++) g[i] = f[i] * (f.length - 1 - i);
        return g;
    }

    private static int[] byY(int[] f) {
        int[] g = new int[f.length - 1];
        for (int i = 0; i < g.length; i++) g[i] = f[i + 1] * (i + 1);
        return g;
    }

    /** Puts x and t y in place of x: then the form is divided by x as often as it ends with 0. */
    private int times(int[] f, int point) {
        int[] moved = point == p ? f : change(f, new int[] {1, point, 0, 1});
        int times = 0;
        while (times < f.length && moved[point == p ? times : f.length - 1 - times] == 0) times++;
        return times;
    }

    private boolean fixed(int[] f) {
        for (int[] m : generators) {
            if (!Arrays.equals(change(f, m), f)) return false;
        }
        return true;
    }

    private Set<Integer> orbit(int[] f) {
        Set<Integer> codes = new LinkedHashSet<>();
        for (int[] m : group) codes.add(code(change(f, m)));
        return codes;
    }

    private int countOrbits(int degree) {
        boolean[] met = new boolean[count(degree)];
        int orbits = 0;
        for (int code = 0; code < met.length; code++) {
            if (!met[code]) {
                orbits++;
                for (int other : orbit(coefficients(degree, code))) met[other] = true;
            }
        }
        return orbits;
    }

    private void close() {
        orbitCounts.clear();
        group = new ArrayList<>();
        Set<String> found = new LinkedHashSet<>();
        group.add(new int[] {1, 0, 0, 1});
        found.add(Arrays.toString(group.get(0)));
        for (int m = 0; m < group.size(); m++) {
            for (int[] g : generators) {
                int[] h = group.get(m);
                // The other way round than the program: the same matrices come of it.
                int[] product = {
                    (g[0] * h[0] + g[1] * h[2]) % p, (g[0] * h[1] + g[1] * h[3]) % p,
                    (g[2] * h[0] + g[3] * h[2]) % p, (g[2] * h[1] + g[3] * h[3]) % p};
                if (found.add(Arrays.toString(product))) group.add(product);
            }
        }
    }

    /** How many steps each form of the orbit of the goal is away from it. */
    private Map<Integer, Integer> distances(int degree, int goal) {
        Map<Integer, Integer> left = new HashMap<>();
        left.put(goal, 0);
        Set<Integer> orbit = orbit(coefficients(degree, goal));
        for (int steps = 1; ; steps++) {
            List<Integer> nearer = new ArrayList<>();
            for (int from : orbit) {
                if (left.containsKey(from)) continue;
                for (int[] m : generators) {
                    Integer rest = left.get(code(change(coefficients(degree, from), m)));
                    if (rest != null) {
                        nearer.add(from);
                        break;
                    }
                }
            }
            if (nearer.isEmpty()) return left;
            for (int from : nearer) left.put(from, steps);
        }
    }

    private static int valueOf(int[] c, int which) {
        if (c.length == 3) {
            return c[1] * c[1] - 4 * c[0] * c[2];
        }
        if (c.length == 4) {
            int first = c[1] * c[1] * c[2] * c[2];
            int second = 4 * c[0] * c[2] * c[2] * c[2];
            int third = 4 * c[1] * c[1] * c[1] * c[3];
            int fourth = 27 * c[0] * c[0] * c[3] * c[3];
            int fifth = 18 * c[0] * c[1] * c[2] * c[3];
            return first - second - third - fourth + fifth;
        }
        if (which == 0) {
            return 12 * c[0] * c[4] - 3 * c[1] * c[3] + c[2] * c[2];
        }
        return 72 * c[0] * c[2] * c[4] + 9 * c[1] * c[2] * c[3] - 27 * c[0] * c[3] * c[3]
            - 27 * c[4] * c[1] * c[1] - 2 * c[2] * c[2] * c[2];
    }
}
