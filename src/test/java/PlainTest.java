import java.util.function.ToLongFunction;

/** Rows of calls on fresh objects, each answer compared with that of the class Plain. */
public final class PlainTest {
    private static final int CALLS = 512;

    private static int seed;
    private static FormForge forge;
    private static Plain plain;
    private static String name;

    /** Numbers that look thrown, the same ones each time. */
    private static int below(int bound) {
        seed = seed * 1103515245 + 12345;
        return (seed >>> 8) % bound;
    }

    private static int odd(int usual) {
        int[] far = {-1, Integer.MIN_VALUE, Integer.MAX_VALUE, 6, 20, 1 << 30};
        return below(60) == 0 ? far[below(far.length)] : usual;
    }

    private static void both(String call, ToLongFunction<FormForge> one, ToLongFunction<Plain> other) {
        String want = Due.said(() -> other.applyAsLong(plain));
        Due.same(name + ": " + call, want, Due.said(() -> one.applyAsLong(forge)));
    }

    private static int codesOf(int prime, int degree) {
        return (int) Math.round(Math.pow(prime, degree + 1));
    }

    private static int[] numbers(int prime) {
        int kind = below(4);
        int[] m = {odd(below(prime)), odd(below(prime)), odd(below(prime)), odd(below(prime))};
        if (kind == 0) {
            m[2] = 0;
        } else if (kind == 1) {
            m[1] = 0;
            m[2] = 0;
        } else if (kind == 2) {
            m[0] = 0;
            m[3] = 0;
        }
        return m;
    }

    private static void tellForm(int prime) {
        int degree = odd(1 + below(4));
        int codes = codesOf(prime, Math.max(1, Math.min(4, degree)));
        int code = odd(below(30) == 0 ? codes - below(2) : below(codes));
        both("form(" + degree + ", " + code + ")", x -> x.form(degree, code), x -> x.form(degree, code));
    }

    private static void tellGenerator(int prime) {
        int[] m = numbers(prime);
        both("generator(" + m[0] + ", " + m[1] + ", " + m[2] + ", " + m[3] + ")",
            x -> x.generator(m[0], m[1], m[2], m[3]), x -> x.generator(m[0], m[1], m[2], m[3]));
    }

    private static void askForm(int forms, int prime) {
        int form = odd(below(forms + 1));
        int what = odd(below(8));
        int u = odd(below(prime + 1));
        int v = odd(below(prime));
        switch (below(6)) {
            case 0:
                both("formIs(" + form + ", " + what + ")", x -> x.formIs(form, what), x -> x.formIs(form, what));
                break;
            case 1:
                both("at(" + form + ", " + u + ", " + v + ")", x -> x.at(form, u, v), x -> x.at(form, u, v));
                break;
            case 2:
                both("multiplicity(" + form + ", " + u + ")",
                    x -> x.multiplicity(form, u), x -> x.multiplicity(form, u));
                break;
            case 3:
                both("changed(" + form + ", " + v + ")", x -> x.changed(form, v), x -> x.changed(form, v));
                break;
            case 4:
                both("average(" + form + ")", x -> x.average(form), x -> x.average(form));
                break;
            default:
                both("value(" + form + ", " + what % 3 + ")",
                    x -> x.value(form, what % 3), x -> x.value(form, what % 3));
        }
    }

    private static void askTwo(int forms) {
        int form = odd(below(forms + 1));
        int other = odd(below(forms + 1));
        int k = odd(below(5));
        switch (below(3)) {
            case 0:
                both("transvectant(" + form + ", " + other + ", " + k + ")",
                    x -> x.transvectant(form, other, k), x -> x.transvectant(form, other, k));
                break;
            case 1:
                both("way(" + form + ", " + other + ")", x -> x.way(form, other), x -> x.way(form, other));
                break;
            default:
                both("step(" + form + ", " + other + ", " + k + ")",
                    x -> x.step(form, other, k), x -> x.step(form, other, k));
        }
    }

    private static void askDegree() {
        int degree = odd(below(6));
        switch (below(4)) {
            case 0:
                both("dimension(" + degree + ")", x -> x.dimension(degree), x -> x.dimension(degree));
                break;
            case 1:
                both("dimensionAnew(" + degree + ")", x -> x.dimensionAnew(degree), x -> x.dimension(degree));
                break;
            case 2:
                both("orbits(" + degree + ")", x -> x.orbits(degree), x -> x.orbits(degree));
                break;
            default:
                both("orbitsAnew(" + degree + ")", x -> x.orbitsAnew(degree), x -> x.orbits(degree));
        }
    }

    /** Another form out of the orbit of one that is told, so that ways lead somewhere. */
    private static void tellNeighbour(int forms) {
        int form = below(forms);
        String degree = Due.said(() -> plain.formIs(form, 0));
        String code = Due.said(() -> plain.changed(form, 0));
        if (!degree.startsWith("t") && !code.startsWith("t")) {
            int n = Integer.parseInt(degree);
            int c = Integer.parseInt(code);
            both("form(" + n + ", " + c + ")", x -> x.form(n, c), x -> x.form(n, c));
        }
    }

    private static void run(int number) {
        int[] primes = {5, 2, 3, 5};
        int prime = primes[number % 4];
        seed = number * 7919 + 1;
        forge = new FormForge();
        plain = new Plain();
        name = "run " + number;
        if (number % 8 != 0) {
            int to = prime;
            both("prime(" + to + ")", x -> x.prime(to), x -> x.prime(to));
        }
        for (int call = 1; call < CALLS; call++) {
            int kind = below(100);
            if (kind < 1) {
                int to = odd(primes[below(4)]);
                both("prime(" + to + ")", x -> x.prime(to), x -> x.prime(to));
                prime = to == 2 || to == 3 || to == 5 ? to : prime;
            } else if (kind < 12) {
                tellForm(prime);
            } else if (kind < 16) {
                tellNeighbour(10);
            } else if (kind < 20) {
                tellGenerator(prime);
            } else if (kind < 25) {
                both("order()", FormForge::order, Plain::order);
            } else if (kind < 28) {
                both("weighs()", x -> x.weighs() ? 1 : 0, x -> x.weighs() ? 1 : 0);
            } else if (kind < 68) {
                askForm(8, prime);
            } else if (kind < 96) {
                askTwo(8);
            } else {
                askDegree();
            }
        }
    }

    public static void main(String[] args) {
        for (int number = 0; number < 160; number++) {
            run(number);
        }
        Due.close("PlainTest");
    }
}
