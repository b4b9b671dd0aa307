/** Objects that several tests begin with. */
final class Made {
    static final int[] PRIMES = {2, 3, 5};
    /** Numbers that are too small or too large for all that the document numbers. */
    static final int[] FAR = {Integer.MIN_VALUE, -1000, -1, 1 << 16, 1 << 30, Integer.MAX_VALUE};

    /** One of the calls that take a degree. */
    interface OfDegree {
        int ask(FormForge x, int degree);
    }

    static FormForge of(int prime) {
        FormForge x = new FormForge();
        x.prime(prime);
        return x;
    }

    /** An object with one form, its number 0. */
    static FormForge withForm(int prime, int degree, int... coefficients) {
        FormForge x = of(prime);
        tell(x, prime, degree, coefficients);
        return x;
    }

    static int tell(FormForge x, int prime, int degree, int... coefficients) {
        return x.form(degree, code(prime, coefficients));
    }

    static int code(int prime, int... coefficients) {
        int code = 0;
        for (int i = coefficients.length - 1; i >= 0; i--) code = code * prime + coefficients[i];
        return code;
    }

    static int power(int number, int exponent) {
        int product = 1;
        for (int i = 0; i < exponent; i++) product *= number;
        return product;
    }

    /** Tells the generators of all matrices: their order is the largest one that the prime has. */
    static FormForge withAllMatrices(int prime) {
        FormForge x = of(prime);
        x.generator(1, 1, 0, 1);
        x.generator(0, 1, 1, 0);
        x.generator(prime == 5 ? 2 : prime - 1, 0, 0, 1);
        return x;
    }

    /** No form and no generator more fits in: the forms are five of each degree, the zero form among them. */
    static FormForge full(int prime) {
        FormForge x = withAllMatrices(prime);
        x.generator(1, 0, 1, 1);
        for (int number = 0; number < 20; number++) {
            int degree = 1 + number / 5;
            x.form(degree, number % 5 * 7 % power(prime, degree + 1));
        }
        return x;
    }

    private Made() {
    }
}
