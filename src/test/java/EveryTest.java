/** Every form, every matrix and, over the smallest field, every two forms, compared with the class Plain. */
public final class EveryTest {
    private static final int[] PRIMES = {2, 3, 5};

    private static FormForge forge;
    private static Plain plain;

    private static int codes(int p, int degree) {
        int codes = 1;
        for (int i = 0; i <= degree; i++) codes *= p;
        return codes;
    }

    private static void begin(int p) {
        forge = new FormForge();
        plain = new Plain();
        forge.prime(p);
        plain.prime(p);
    }

    private static void tell(int degree, int code) {
        String want = Due.said(() -> plain.form(degree, code));
        Due.same("form(" + degree + ", " + code + ")", want, Due.said(() -> forge.form(degree, code)));
    }

    private static void compareForm(String name, int p) {
        for (int what = 0; what <= 3; what++) {
            int w = what;
            Due.is(name + " formIs " + w, Due.said(() -> plain.formIs(0, w)), () -> forge.formIs(0, w));
        }
        for (int point = -1; point <= p + 1; point++) {
            int t = point;
            Due.is(name + " multiplicity " + t,
                Due.said(() -> plain.multiplicity(0, t)), () -> forge.multiplicity(0, t));
        }
        for (int which = -1; which <= 2; which++) {
            int w = which;
            Due.is(name + " value " + w, Due.said(() -> plain.value(0, w)), () -> forge.value(0, w));
        }
        for (int number = 0; number < p * p; number++) {
            int x = number / p;
            int y = number % p;
            Due.is(name + " at " + x + ", " + y, Due.said(() -> plain.at(0, x, y)), () -> forge.at(0, x, y));
        }
    }

    private static void everyForm(int p) {
        for (int degree = 1; degree <= 4; degree++) {
            for (int code = 0; code < codes(p, degree); code++) {
                begin(p);
                tell(degree, code);
                compareForm("prime " + p + " degree " + degree + " code " + code, p);
            }
        }
    }

    /** The group of one matrix: what it makes of a few forms, its order, averages, dimensions and orbits. */
    private static void oneMatrix(String name, int p, int matrix) {
        int a = matrix % p;
        int b = matrix / p % p;
        int c = matrix / p / p % p;
        int d = matrix / p / p / p;
        begin(p);
        Due.is(name, Due.said(() -> plain.generator(a, b, c, d)), () -> forge.generator(a, b, c, d));
        Due.is(name + " order", plain.order(), () -> forge.order());
        Due.is(name + " weighs", 1, () -> forge.weighs() ? 1 : 0);
        for (int degree = 1; degree <= 4; degree++) {
            int n = degree;
            for (int part = 0; part < 3; part++) tell(n, (matrix * 31 + part * 17 + 5) % codes(p, n));
            Due.is(name + " dimension " + n, plain.dimension(n), () -> forge.dimension(n));
            Due.is(name + " dimensionAnew " + n, plain.dimension(n), () -> forge.dimensionAnew(n));
            Due.is(name + " orbits " + n, plain.orbits(n), () -> forge.orbits(n));
            Due.is(name + " orbitsAnew " + n, plain.orbits(n), () -> forge.orbitsAnew(n));
        }
        for (int number = 0; number < 12; number++) {
            int form = number;
            Due.is(name + " changed " + form, Due.said(() -> plain.changed(form, 0)), () -> forge.changed(form, 0));
            Due.is(name + " average " + form, Due.said(() -> plain.average(form)), () -> forge.average(form));
            for (int what = 4; what <= 6; what++) {
                int w = what;
                Due.is(name + " formIs " + form + ", " + w,
                    Due.said(() -> plain.formIs(form, w)), () -> forge.formIs(form, w));
            }
        }
        Due.is(name + " weighs all", 1, () -> forge.weighs() ? 1 : 0);
    }

    private static void everyMatrix(int p) {
        for (int matrix = 0; matrix < p * p * p * p; matrix++) {
            oneMatrix("prime " + p + " matrix " + matrix, p, matrix);
        }
    }

    private static void compareTwo(String name) {
        for (int k = -1; k <= 5; k++) {
            int times = k;
            Due.is(name + " transvectant " + k,
                Due.said(() -> plain.transvectant(0, 1, times)), () -> forge.transvectant(0, 1, times));
        }
    }

    /** Over the field of 2 each two forms, over the others each with a few. */
    private static void everyTwo(int p) {
        for (int degree = 1; degree <= 4; degree++) {
            for (int other = 1; other <= 4; other++) {
                int stride = p == 2 ? 1 : p == 3 ? 7 : 89;
                for (int code = 0; code < codes(p, degree); code += stride) {
                    for (int second = 0; second < codes(p, other); second += stride) {
                        begin(p);
                        tell(degree, code);
                        tell(other, second);
                        compareTwo("prime " + p + " forms " + degree + ", " + code + " and " + other + ", " + second);
                    }
                }
            }
        }
    }

    public static void main(String[] args) {
        for (int p : PRIMES) {
            everyForm(p);
            everyMatrix(p);
            everyTwo(p);
        }
        Due.close("EveryTest");
    }
}
