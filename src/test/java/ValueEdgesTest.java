/** The sentences on values that name a boundary, in the terms and the promises 13 to 15: a test of each. */
public final class ValueEdgesTest {
    private static int[] form(int... coefficients) {
        return coefficients;
    }

    private static FormForge two(int prime, int[] first, int[] second) {
        FormForge x = Made.withForm(prime, first.length - 1, first);
        Made.tell(x, prime, second.length - 1, second);
        return x;
    }

    private static void transvectant(String name, int prime, int[] first, int[] second, int k, int... due) {
        Due.is(name, Made.code(prime, due), () -> two(prime, first, second).transvectant(0, 1, k));
    }

    /** The numbers k that are right for two degrees. */
    private static int[][] right(int degree) {
        switch (degree) {
            case 1:
                return new int[][] {{0}, {0, 1}, {0, 1}, {1}};
            case 2:
                return new int[][] {{0, 1}, {0, 1}, {1, 2}, {1, 2}};
            case 3:
                return new int[][] {{0, 1}, {1, 2}, {1, 2}, {2, 3}};
            default:
                return new int[][] {{1}, {1, 2}, {2, 3}, {2, 3}};
        }
    }

    private static boolean holds(int[] row, int number) {
        for (int other : row) {
            if (other == number) return true;
        }
        return false;
    }

    private static void rightAndWrong(FormForge x, int degree, int other, int from, int to) {
        int[] ks = right(degree)[other - 1];
        for (int k = from; k <= to; k++) {
            int times = k;
            String due = holds(ks, k) ? "0" : Due.RANGE;
            Due.is(degree + " and " + other + " by " + k, due, () -> x.transvectant(degree - 1, other - 1, times));
        }
    }

    private static FormForge zeroForms(int prime) {
        FormForge x = Made.of(prime);
        for (int degree = 1; degree <= 4; degree++) x.form(degree, 0);
        return x;
    }

    // ---- terms

    private static void upToTheLesser() {
        FormForge x = zeroForms(5);
        for (int degree = 1; degree <= 4; degree++) {
            for (int other = 1; other <= 4; other++) {
                int lesser = Math.min(degree, other);
                rightAndWrong(x, degree, other, -1, 0);
                rightAndWrong(x, degree, other, lesser, lesser + 1);
            }
        }
        transvectant("the product", 5, form(1, 4), form(1, 1), 0, 1, 0, 4);
        transvectant("the lesser of 1 and 2", 5, form(0, 1), form(0, 1, 0), 1, 0, 4);
        transvectant("the lesser of 3 and 4", 5, form(0, 1, 0, 0), form(0, 0, 1, 0, 0), 3, 1, 0);
        transvectant("the lesser of 4 and 3", 5, form(0, 0, 1, 0, 0), form(0, 1, 0, 0), 3, 4, 0);
    }

    private static void signsAndWays() {
        transvectant("once by x and y of two", 5, form(0, 1, 0), form(0, 0, 1, 0, 0), 2, 0, 2, 0);
        transvectant("once by y of three", 5, form(0, 1, 0, 0), form(0, 0, 1, 0, 0), 3, 1, 0);
        transvectant("twice by y of three", 5, form(0, 0, 1, 0), form(0, 0, 1, 0, 0), 3, 0, 4);
        transvectant("thrice by y of three", 5, form(0, 0, 0, 1), form(1, 0, 0, 0, 0), 3, 1, 0);
        transvectant("never by y of three", 5, form(1, 0, 0, 0), form(0, 0, 0, 0, 1), 3, 0, 4);
        // With itself each part is taken away again.
        for (int p : Made.PRIMES) {
            int[] f = form(1, p - 1, 1);
            int[] g = form(p - 1, 1, 0, 1, p - 1);
            transvectant(p + ": with itself by 1", p, f, f, 1, 0, 0, 0);
            transvectant(p + ": with itself by 3", p, g, g, 3, 0, 0, 0);
        }
    }

    private static void derivedToNothing() {
        transvectant("yy has no x", 5, form(0, 0, 1), form(0, 1, 0), 1, 0, 0, 3);
        transvectant("xx has no y", 5, form(1, 0, 0), form(0, 1, 0), 1, 2, 0, 0);
        transvectant("y by x and by y", 5, form(0, 1), form(0, 0, 1), 1, 0, 0);
        transvectant("xy has both", 5, form(0, 1, 0), form(0, 0, 1), 1, 0, 0, 2);
        // The power, or a product of two of them, is 0 in the field.
        transvectant("2 x of 2", 2, form(1, 0, 0), form(0, 0, 1), 1, 0, 0, 0);
        transvectant("3 xx of 3", 3, form(1, 0, 0, 0), form(0, 1), 1, 0, 0, 0);
        transvectant("4 xxx of 3", 3, form(1, 0, 0, 0, 0), form(0, 1), 1, 1, 0, 0, 0);
        transvectant("4 xxx of 2", 2, form(1, 0, 0, 0, 0), form(0, 1), 1, 0, 0, 0, 0);
        transvectant("12 xx of 3", 3, form(1, 0, 0, 0, 0), form(0, 0, 0, 0, 1), 2, 0, 0, 0, 0, 0);
        transvectant("12 xx of 5", 5, form(1, 0, 0, 0, 0), form(0, 0, 0, 0, 1), 2, 0, 0, 4, 0, 0);
        transvectant("24 x of 5", 5, form(1, 0, 0, 0, 0), form(0, 0, 0, 0, 1), 3, 0, 1, 0);
    }

    private static void values(String name, int prime, int[] f, int... due) {
        FormForge x = Made.withForm(prime, f.length - 1, f);
        for (int which = 0; which < due.length; which++) {
            int w = which;
            Due.is(prime + ": value " + w + " of " + name, due[w], () -> x.value(0, w));
        }
        Due.is(prime + ": the value behind of " + name, Due.RANGE, () -> x.value(0, due.length));
    }

    private static void largestValues() {
        // Each coefficient p less 1, that is less 1: less 3, less 16, 10 and less 25.
        values("two", 2, form(1, 1, 1), 1);
        values("two", 3, form(2, 2, 2), 0);
        values("two", 5, form(4, 4, 4), 2);
        values("three", 2, form(1, 1, 1, 1), 0);
        values("three", 3, form(2, 2, 2, 2), 2);
        values("three", 5, form(4, 4, 4, 4), 4);
        values("four", 2, form(1, 1, 1, 1, 1), 0, 1);
        values("four", 3, form(2, 2, 2, 2, 2), 1, 2);
        values("four", 5, form(4, 4, 4, 4, 4), 0, 0);
    }

    private static void emptyValues() {
        for (int p : Made.PRIMES) {
            values("the zero form of one", p, form(0, 0));
            values("the zero form of two", p, form(0, 0, 0), 0);
            values("the zero form of three", p, form(0, 0, 0, 0), 0);
            values("the zero form of four", p, form(0, 0, 0, 0, 0), 0, 0);
            values("x of one", p, form(1, 0));
            values("xx", p, form(1, 0, 0), 0);
            values("yyy", p, form(0, 0, 0, 1), 0);
            values("xxxy", p, form(0, 1, 0, 0, 0), 0, 0);
        }
    }

    private static void timesDeterminant(int prime, int determinant, int[] f, int which, int weight) {
        FormForge x = Made.withForm(prime, f.length - 1, f);
        x.generator(determinant, 0, 0, 1);
        x.generator(0, 1, determinant, 0);
        int value = x.value(0, which);
        String name = prime + ": value " + which + " of degree " + (f.length - 1) + " by " + determinant;
        x.form(f.length - 1, x.changed(0, 0));
        x.form(f.length - 1, x.changed(0, 1));
        int due = Math.floorMod(value * Made.power(determinant, weight), prime);
        Due.is(name, due, () -> x.value(1, which));
        // The other one's determinant is just below 0; the weights are even.
        Due.is(name + ", taken from 0", due, () -> x.value(2, which));
        Due.is(name + " weighs", 1, () -> x.weighs() ? 1 : 0);
    }

    private static void eachDeterminant() {
        for (int p : Made.PRIMES) {
            for (int d = 1; d < p; d++) {
                timesDeterminant(p, d, form(0, 1, 0), 0, 2);
                timesDeterminant(p, d, form(1, 1, 1), 0, 2);
                timesDeterminant(p, d, form(0, 1, p - 1, 0), 0, 6);
                timesDeterminant(p, d, form(1, 0, 0, 1), 0, 6);
                timesDeterminant(p, d, form(0, 0, 1, 0, 0), 0, 4);
                timesDeterminant(p, d, form(0, 0, 1, 0, 0), 1, 6);
                timesDeterminant(p, d, form(1, 1, 1, 0, 1), 0, 4);
                timesDeterminant(p, d, form(1, 1, 1, 0, 1), 1, 6);
            }
        }
        values("xy", 5, form(0, 1, 0), 1);
        values("2 xy, by 2", 5, form(0, 2, 0), 4);
        values("xxyy", 5, form(0, 0, 1, 0, 0), 1, 3);
        values("4 xxyy, by 2", 5, form(0, 0, 4, 0, 0), 1, 2);
    }

    // ---- promises 13 to 15

    private static void rightTimes() {
        for (int p : Made.PRIMES) {
            FormForge x = zeroForms(p);
            for (int degree = 1; degree <= 4; degree++) {
                for (int other = 1; other <= 4; other++) rightAndWrong(x, degree, other, -2, 6);
            }
            for (int k : Made.FAR) {
                Due.is(p + ": k " + k, Due.RANGE, () -> x.transvectant(3, 3, k));
                Due.is(p + ": k " + k + " of lower ones", Due.RANGE, () -> x.transvectant(0, 1, k));
            }
        }
    }

    private static void transvectantOfNoForm() {
        FormForge x = new FormForge();
        Due.is("no form at all", Due.INDEX, () -> x.transvectant(0, 0, 0));
        Made.tell(x, 5, 1, 0, 1);
        Due.is("the only form", 25, () -> x.transvectant(0, 0, 0));
        Due.is("the first form behind", Due.INDEX, () -> x.transvectant(1, 0, 0));
        Due.is("the other form behind", Due.INDEX, () -> x.transvectant(0, 1, 0));
        Due.is("the first form before", Due.INDEX, () -> x.transvectant(-1, 0, 0));
        Due.is("the other form before", Due.INDEX, () -> x.transvectant(0, -1, 0));
        Due.is("the first form behind and a wrong k", Due.INDEX, () -> x.transvectant(1, 0, -1));
        Due.is("the other form behind and a wrong k", Due.INDEX, () -> x.transvectant(0, 1, 9));
        for (int form : Made.FAR) {
            Due.is("first form " + form, Due.INDEX, () -> x.transvectant(form, 0, 0));
            Due.is("other form " + form, Due.INDEX, () -> x.transvectant(0, form, 0));
            Due.is("all " + form, Due.INDEX, () -> x.transvectant(form, form, form));
        }
    }

    private static void valuesOfTheDegree() {
        int[] has = {0, 0, 1, 1, 2};
        for (int p : Made.PRIMES) {
            FormForge x = zeroForms(p);
            for (int degree = 1; degree <= 4; degree++) {
                int form = degree - 1;
                for (int which = -2; which <= 3; which++) {
                    int w = which;
                    String due = w >= 0 && w < has[degree] ? "0" : Due.RANGE;
                    Due.is(p + ": value " + w + " of degree " + degree, due, () -> x.value(form, w));
                }
                for (int which : Made.FAR) Due.is(p + ": value " + which, Due.RANGE, () -> x.value(form, which));
            }
        }
    }

    private static void valueOfNoForm() {
        FormForge x = new FormForge();
        Due.is("no form at all", Due.INDEX, () -> x.value(0, 0));
        Made.tell(x, 5, 2, 0, 1, 0);
        Due.is("the only form", 1, () -> x.value(0, 0));
        Due.is("the form behind", Due.INDEX, () -> x.value(1, 0));
        Due.is("the form before", Due.INDEX, () -> x.value(-1, 0));
        Due.is("the form behind and no such value", Due.INDEX, () -> x.value(1, 2));
        for (int form : Made.FAR) {
            Due.is("form " + form, Due.INDEX, () -> x.value(form, 0));
            Due.is("form " + form + " and no such value", Due.INDEX, () -> x.value(form, -1));
        }
    }

    private static void noneOrAll() {
        for (int p : Made.PRIMES) {
            Due.is(p + ": no form and no generator", 1, () -> Made.of(p).weighs() ? 1 : 0);
            Due.is(p + ": no generator", 1, () -> Made.withForm(p, 2, 1, 1, 1).weighs() ? 1 : 0);
            Due.is(p + ": no form", 1, () -> Made.withAllMatrices(p).weighs() ? 1 : 0);
            FormForge one = Made.withAllMatrices(p);
            one.form(1, 1);
            Due.is(p + ": a form without a value", 1, () -> one.weighs() ? 1 : 0);
            Due.is(p + ": as many as can be", 1, () -> Made.full(p).weighs() ? 1 : 0);
            FormForge last = Made.withAllMatrices(p);
            for (int form = 0; form < 20; form++) last.form(4, Made.power(p, 5) - 1 - form);
            Due.is(p + ": the largest codes", 1, () -> last.weighs() ? 1 : 0);
        }
    }

    private static void terms() {
        Due.sentence("Terms: k from 0 to the lesser of both", ValueEdgesTest::upToTheLesser);
        Due.sentence("Terms: of -1 to the power i, times k over i (how many ways to choose i of k)",
            ValueEdgesTest::signsAndWays);
        Due.sentence("Terms: and nothing of what has no x", ValueEdgesTest::derivedToNothing);
        Due.sentence("Terms: A form of degree 2 has the value 0", ValueEdgesTest::largestValues);
        Due.sentence("Terms: One of degree 4 has the value 0", ValueEdgesTest::emptyValues);
        Due.sentence("Terms: a value becomes what it was times the determinant to the power of its weight",
            ValueEdgesTest::eachDeterminant);
    }

    private static void promises() {
        Due.sentence("Promise 13: k: 0 to the lesser degree, so that the degree of it is 1 to 4",
            ValueEdgesTest::rightTimes);
        Due.sentence("Promise 13: Throws IndexOutOfBoundsException as told, of both forms",
            ValueEdgesTest::transvectantOfNoForm);
        Due.sentence("Promise 14: which: a value that forms of its degree have", ValueEdgesTest::valuesOfTheDegree);
        Due.sentence("Promise 14: Throws IndexOutOfBoundsException as told", ValueEdgesTest::valueOfNoForm);
        Due.sentence("Promise 15: each value of each form becomes, by each generator, what is told",
            ValueEdgesTest::noneOrAll);
    }

    public static void main(String[] args) {
        terms();
        promises();
        Due.close("ValueEdgesTest");
    }
}
