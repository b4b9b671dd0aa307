/** The sentences on the group that name a boundary, in the terms and the promises 7 to 12: a test of each. */
public final class GroupEdgesTest {
    private static FormForge withGenerators(int prime, int[]... generators) {
        FormForge x = Made.of(prime);
        for (int[] m : generators) x.generator(m[0], m[1], m[2], m[3]);
        return x;
    }

    private static int[] matrix(int a, int b, int c, int d) {
        return new int[] {a, b, c, d};
    }

    // ---- terms

    private static void determinants() {
        int[] accepted = {0, 0, 6, 48, 0, 480};
        for (int p : Made.PRIMES) {
            int count = 0;
            for (int m = 0; m < p * p * p * p; m++) {
                int a = m % p;
                int b = m / p % p;
                int c = m / p / p % p;
                int d = m / p / p / p;
                boolean right = (a * d - b * c) % p != 0;
                count += right ? 1 : 0;
                String name = p + ": " + a + ", " + b + ", " + c + ", " + d;
                Due.is(name, right ? "0" : Due.RANGE, () -> Made.of(p).generator(a, b, c, d));
            }
            int all = count;
            Due.is(p + ": how many are matrices", accepted[p], () -> all);
        }
    }

    private static void bothAtOnce() {
        FormForge x = withGenerators(5, matrix(0, 1, 1, 0), matrix(1, 1, 1, 0), matrix(0, 2, 1, 0));
        Made.tell(x, 5, 1, 1, 2);
        Made.tell(x, 5, 2, 1, 0, 0);
        Due.is("x and 2 y to y and 2 x", Made.code(5, 2, 1), () -> x.changed(0, 0));
        Due.is("x and 2 y to x and y, and 2 x", Made.code(5, 3, 1), () -> x.changed(0, 1));
        Due.is("x and 2 y to 2 y, and 2 x", Made.code(5, 2, 2), () -> x.changed(0, 2));
        Due.is("xx to 4 yy", Made.code(5, 0, 0, 4), () -> x.changed(1, 2));
    }

    private static void fourGenerators() {
        for (int p : Made.PRIMES) {
            FormForge x = Made.withForm(p, 1, 1, 0);
            Due.is(p + ": generator 0 before", Due.INDEX, () -> x.changed(0, 0));
            for (int number = 0; number < 4; number++) {
                int n = number;
                int b = number % p;
                Due.is(p + ": generator " + n, n, () -> x.generator(1, b, 0, 1));
                Due.is(p + ": changed by it", 1 + b * p, () -> x.changed(0, n));
                Due.is(p + ": changed by the next", Due.INDEX, () -> x.changed(0, n + 1));
            }
            Due.is(p + ": one more", Due.STATE, () -> x.generator(0, 1, 1, 0));
            for (int number = 0; number < 4; number++) {
                int n = number;
                Due.is(p + ": generator " + n + " stays", 1 + number % p * p, () -> x.changed(0, n));
            }
        }
    }

    private static void numbersOfTheirOwn() {
        FormForge x = Made.withForm(5, 1, 1, 0);
        Due.is("one that changes nothing", 0, () -> x.generator(1, 0, 0, 1));
        Due.is("again one", 1, () -> x.generator(1, 0, 0, 1));
        Due.is("another one", 2, () -> x.generator(0, 1, 1, 0));
        Due.is("the same one", 3, () -> x.generator(0, 1, 1, 0));
        Due.is("one more", Due.STATE, () -> x.generator(1, 0, 0, 1));
        int[] due = {1, 1, 5, 5};
        for (int number = 0; number < 4; number++) {
            int n = number;
            Due.is("changed by " + n, due[n], () -> x.changed(0, n));
        }
        Due.is("the group does not grow by it", 2, () -> x.order());
        Due.is("nor does the orbit", 2, () -> x.formIs(0, 5));
    }

    private static void oneThatChangesNothing() {
        for (int p : Made.PRIMES) {
            FormForge x = Made.of(p);
            Due.is(p + ": no generators", 1, () -> x.order());
            for (int number = 0; number < 4; number++) x.generator(1, 0, 0, 1);
            Due.is(p + ": four that change nothing", 1, () -> x.order());
        }
    }

    private static void orders() {
        Due.is("the smallest of all", 1, () -> new FormForge().order());
        Due.is("less 1", 2, () -> withGenerators(5, matrix(4, 0, 0, 4)).order());
        Due.is("a shear", 5, () -> withGenerators(5, matrix(1, 1, 0, 1)).order());
        Due.is("less a shear", 10, () -> withGenerators(5, matrix(4, 4, 0, 4)).order());
        Due.is("the largest one of one matrix", 24, () -> withGenerators(5, matrix(0, 1, 3, 4)).order());
        Due.is("of 3", 8, () -> withGenerators(3, matrix(0, 1, 1, 2)).order());
        Due.is("of 2", 3, () -> withGenerators(2, matrix(0, 1, 1, 1)).order());
        Due.is("each of determinant 1", 120, () -> withGenerators(5, matrix(1, 1, 0, 1), matrix(1, 0, 1, 1)).order());
        Due.is("all of 2", 6, () -> Made.withAllMatrices(2).order());
        Due.is("all of 3", 48, () -> Made.withAllMatrices(3).order());
        Due.is("all of 5", 480, () -> Made.withAllMatrices(5).order());
        Due.is("all of 5 and one told twice", 480, () -> Made.full(5).order());
    }

    private static void firstOneFirst() {
        FormForge x = withGenerators(5, matrix(0, 1, 1, 0), matrix(1, 1, 0, 1));
        x.form(1, 1);
        x.form(1, 6);
        x.form(1, 5);
        x.form(1, 7);
        // x by the second is x and y, and by the first then the same; x by the first is y, and by the second y.
        Due.is("x by the second", 6, () -> x.changed(0, 1));
        Due.is("x and y by the first", 6, () -> x.changed(1, 0));
        Due.is("x by the first", 5, () -> x.changed(0, 0));
        Due.is("y by the second", 5, () -> x.changed(2, 1));
        int[] due = {1, 1, 0, -1};
        for (int step = 0; step < 4; step++) {
            int s = step;
            Due.is("x to 2 x and y, step " + s, due[s], () -> x.step(0, 3, s));
        }
    }

    private static void fixed() {
        FormForge x = Made.of(5);
        Made.tell(x, 5, 2, 1, 0, 1);
        Made.tell(x, 5, 2, 0, 1, 0);
        Made.tell(x, 5, 2, 1, 0, 0);
        Made.tell(x, 5, 2, 0, 0, 0);
        int[][] due = {{1, 1, 1, 1}, {1, 1, 1, 1}, {1, 1, 0, 1}, {1, 0, 0, 1}, {0, 0, 0, 1}};
        int[][] generators = {matrix(1, 0, 0, 1), matrix(0, 1, 1, 0), matrix(4, 0, 0, 1), matrix(1, 1, 0, 1)};
        for (int told = 0; told <= 4; told++) {
            for (int form = 0; form < 4; form++) {
                int f = form;
                Due.is("form " + f + " by " + told, due[told][f], () -> x.formIs(f, 4));
            }
            int[] m = told < 4 ? generators[told] : null;
            if (m != null) x.generator(m[0], m[1], m[2], m[3]);
        }
    }

    private static int average(FormForge x, int prime, int... coefficients) {
        int form = Made.tell(x, prime, coefficients.length - 1, coefficients);
        return x.average(form);
    }

    private static void eachMatrixCounted() {
        FormForge one = new FormForge();
        Due.is("the only matrix", 3124, () -> average(one, 5, 4, 4, 4, 4, 4));
        // The orbit is smaller than the group: 1 of 2, 2 of 8, 2 of 32.
        FormForge two = withGenerators(5, matrix(4, 0, 0, 4));
        Due.is("xx by less 1", 1, () -> average(two, 5, 1, 0, 0));
        Due.is("x by less 1", 0, () -> average(two, 5, 1, 0));
        FormForge eight = withGenerators(5, matrix(0, 1, 1, 0), matrix(4, 0, 0, 1));
        Due.is("xx by 8", Made.code(5, 3, 0, 3), () -> average(eight, 5, 1, 0, 0));
        Due.is("xx and yy by 8", Made.code(5, 1, 0, 1), () -> average(eight, 5, 1, 0, 1));
        FormForge more = withGenerators(5, matrix(0, 1, 1, 0), matrix(2, 0, 0, 1));
        Due.is("xxxx by 32", Made.code(5, 3, 0, 0, 0, 3), () -> average(more, 5, 1, 0, 0, 0, 0));
        Due.is("xxyy by 32", 0, () -> average(more, 5, 0, 0, 1, 0, 0));
        Due.is("the zero form by 32", 0, () -> average(more, 5, 0, 0));
    }

    private static void whatMakesOne() {
        // The orders 2, 3, 4, 6, 8, 24, 32 are 2, 3, 4, 1, 3, 4, 2 of 5; 2, 4, 8 are 2, 1, 2 of 3; 3 is 1 of 2.
        int[][][] groups = {{matrix(0, 1, 1, 0)}, {matrix(0, 1, 4, 4)}, {matrix(1, 0, 0, 2)},
            {matrix(0, 1, 4, 4), matrix(4, 0, 0, 4)}, {matrix(0, 1, 1, 0), matrix(4, 0, 0, 1)},
            {matrix(0, 1, 3, 4)}, {matrix(0, 1, 1, 0), matrix(2, 0, 0, 1)}};
        int[] orders = {2, 3, 4, 6, 8, 24, 32};
        int[] averages = {Made.code(5, 3, 0, 3), Made.code(5, 4, 4, 4), 1,
            Made.code(5, 4, 4, 4), Made.code(5, 3, 0, 3), 0, 0};
        for (int group = 0; group < orders.length; group++) {
            FormForge x = withGenerators(5, groups[group]);
            Due.is("order", orders[group], () -> x.order());
            Due.is("xx by " + orders[group], averages[group], () -> average(x, 5, 1, 0, 0));
        }
        FormForge eight = withGenerators(3, matrix(0, 1, 2, 0), matrix(1, 1, 1, 2));
        Due.is("order of 3", 8, () -> eight.order());
        Due.is("xxyy by 8 of 3", Made.code(3, 2, 0, 1, 0, 2), () -> average(eight, 3, 0, 0, 1, 0, 0));
        FormForge two = withGenerators(3, matrix(2, 0, 0, 1));
        Due.is("y by 2 of 3", 3, () -> average(two, 3, 0, 1));
        FormForge three = withGenerators(2, matrix(1, 1, 1, 0));
        Due.is("xy by 3 of 2", Made.code(2, 1, 1, 1), () -> average(three, 2, 0, 1, 0));
    }

    private static void noneIfItDivides() {
        int[][][] none = {{matrix(1, 1, 0, 1)}, {matrix(4, 4, 0, 4)}, {matrix(1, 1, 0, 1), matrix(2, 0, 0, 1)},
            {matrix(1, 1, 0, 1), matrix(1, 0, 1, 1)}, {matrix(1, 1, 0, 1), matrix(0, 1, 1, 0), matrix(2, 0, 0, 1)}};
        for (int[][] group : none) {
            FormForge x = withGenerators(5, group);
            Due.is("5 divides " + x.order(), -1, () -> average(x, 5, 1, 0, 0));
            Due.is("also of the zero form", -1, () -> average(x, 5, 0, 0));
        }
        FormForge three = withGenerators(3, matrix(1, 0, 1, 1));
        Due.is("3 divides 3, also of a fixed form", -1, () -> average(three, 3, 1, 0));
        Due.is("3 divides 48", -1, () -> average(Made.withAllMatrices(3), 3, 1, 0));
        Due.is("2 divides 2", -1, () -> average(withGenerators(2, matrix(0, 1, 1, 0)), 2, 1, 1));
        Due.is("2 divides 6", -1, () -> average(Made.withAllMatrices(2), 2, 1, 1, 1));
        Due.is("2 does not divide 1", 3, () -> average(Made.of(2), 2, 1, 1));
    }

    private static void dimensions(String name, FormForge x, int... due) {
        for (int degree = 1; degree <= 4; degree++) {
            int n = degree;
            Due.is(name + ": " + n, due[n - 1], () -> x.dimension(n));
            Due.is(name + ": anew " + n, due[n - 1], () -> x.dimensionAnew(n));
        }
    }

    private static void smallestAndLargestDimensions() {
        for (int p : Made.PRIMES) {
            dimensions(p + ": no generators", Made.of(p), 2, 3, 4, 5);
            dimensions(p + ": what changes nothing", withGenerators(p, matrix(1, 0, 0, 1)), 2, 3, 4, 5);
        }
        dimensions("all of 2", Made.withAllMatrices(2), 0, 1, 1, 1);
        dimensions("all of 3", Made.withAllMatrices(3), 0, 0, 0, 0);
        dimensions("all of 5", Made.withAllMatrices(5), 0, 0, 0, 0);
        // x y y y less x x x y, by each of determinant 1.
        dimensions("determinant 1 of 3", withGenerators(3, matrix(1, 1, 0, 1), matrix(1, 0, 1, 1)), 0, 0, 0, 1);
        dimensions("less 1", withGenerators(5, matrix(4, 0, 0, 4)), 0, 3, 0, 5);
    }

    // ---- promises 7 to 12

    private static void generatorNumbers(int place) {
        int[] least = place == 0 || place == 3 ? matrix(0, 1, 1, 0) : matrix(1, 0, 0, 1);
        for (int p : Made.PRIMES) {
            int[] m = matrix(1, 0, 0, 1);
            FormForge x = Made.of(p);
            for (int number : Made.FAR) {
                m[place] = number;
                Due.is(p + ": " + number, Due.RANGE, () -> x.generator(m[0], m[1], m[2], m[3]));
            }
            for (int number : new int[] {-p, -1, p, p + 1}) {
                m[place] = number;
                Due.is(p + ": " + number, Due.RANGE, () -> x.generator(m[0], m[1], m[2], m[3]));
            }
            Due.is(p + ": no generator came of it", 1, () -> x.order());
            m[place] = p - 1;
            Due.is(p + ": p less 1", 0, () -> x.generator(m[0], m[1], m[2], m[3]));
            Due.is(p + ": 0", 1, () -> x.generator(least[0], least[1], least[2], least[3]));
        }
    }

    private static void noDeterminant() {
        int[][] wrong = {matrix(0, 0, 0, 0), matrix(1, 1, 1, 1), matrix(4, 4, 4, 4), matrix(1, 2, 2, 4),
            matrix(2, 1, 1, 3), matrix(1, 2, 3, 1), matrix(0, 1, 0, 1), matrix(0, 0, 3, 4)};
        FormForge x = new FormForge();
        for (int[] m : wrong) {
            String name = m[0] + ", " + m[1] + ", " + m[2] + ", " + m[3];
            Due.is(name, Due.RANGE, () -> x.generator(m[0], m[1], m[2], m[3]));
        }
        Due.is("nothing came of it", 1, () -> x.order());
        Due.is("the next one is the first", 0, () -> x.generator(2, 1, 1, 2));
    }

    private static void noMoreGenerators() {
        for (int p : Made.PRIMES) {
            FormForge x = Made.of(p);
            for (int number = 0; number < 3; number++) x.generator(1, 0, 0, 1);
            Due.is(p + ": the last one", 3, () -> x.generator(0, 1, 1, 0));
            Due.is(p + ": one more", Due.STATE, () -> x.generator(1, 1, 0, 1));
            Due.is(p + ": one told already", Due.STATE, () -> x.generator(0, 1, 1, 0));
            Due.is(p + ": one more out of range", Due.RANGE, () -> x.generator(p, 1, 0, 1));
            Due.is(p + ": one more below it", Due.RANGE, () -> x.generator(1, 1, -1, 1));
            Due.is(p + ": one more of determinant 0", Due.RANGE, () -> x.generator(1, 1, 1, 1));
            Due.is(p + ": the order stays", 2, () -> x.order());
            x.prime(p);
            Due.is(p + ": room again", 0, () -> x.generator(1, 1, 0, 1));
        }
    }

    private static void orderOfTheGroup() {
        for (int p : Made.PRIMES) {
            FormForge x = Made.withAllMatrices(p);
            int all = (p * p - 1) * (p * p - p);
            Due.is(p + ": all matrices", all, () -> x.order());
            x.generator(1, 0, 0, 1);
            Due.is(p + ": with one that changes nothing", all, () -> x.order());
            x.prime(p);
            Due.is(p + ": none", 1, () -> x.order());
        }
    }

    private static void changedOfNone() {
        FormForge x = withGenerators(5, matrix(0, 1, 1, 0), matrix(1, 0, 0, 1));
        x.form(1, 1);
        Due.is("the first generator", 5, () -> x.changed(0, 0));
        Due.is("the last generator", 1, () -> x.changed(0, 1));
        Due.is("the generator behind", Due.INDEX, () -> x.changed(0, 2));
        Due.is("the generator before", Due.INDEX, () -> x.changed(0, -1));
        Due.is("the form behind", Due.INDEX, () -> x.changed(1, 0));
        Due.is("the form before", Due.INDEX, () -> x.changed(-1, 0));
        for (int number : Made.FAR) {
            Due.is("generator " + number, Due.INDEX, () -> x.changed(0, number));
            Due.is("form " + number, Due.INDEX, () -> x.changed(number, 0));
        }
        FormForge full = Made.full(3);
        // xxxx and xyyy, with x and y in place of y.
        Due.is("the last form and generator", Made.code(3, 2, 0, 0, 1, 0), () -> full.changed(19, 3));
        Due.is("behind both", Due.INDEX, () -> full.changed(20, 4));
    }

    private static void noneWithoutOne() {
        for (int p : Made.PRIMES) {
            FormForge x = Made.of(p);
            for (int degree = 1; degree <= 4; degree++) x.form(degree, degree);
            for (int form = 0; form < 4; form++) {
                int f = form;
                Due.is(p + ": the average with order 1 of form " + f, f + 1, () -> x.average(f));
            }
            x.generator(1, p - 1, 0, 1);
            for (int form = 0; form < 4; form++) {
                int f = form;
                Due.is(p + ": with order p of form " + f, FormForge.NONE, () -> x.average(f));
            }
        }
    }

    /** Less 1 in each place, by less x in place of x: 1 and less 1 in turn; the zero form stays. */
    private static void smallestAndLargestCodes() {
        for (int p : Made.PRIMES) {
            FormForge x = withGenerators(p, matrix(p - 1, 0, 0, 1));
            for (int degree = 1; degree <= 4; degree++) {
                int[] turned = new int[degree + 1];
                for (int i = 0; i <= degree; i++) turned[i] = (degree - i) % 2 == 0 ? p - 1 : 1;
                int due = Made.code(p, turned);
                int zero = x.form(degree, 0);
                int largest = x.form(degree, Made.power(p, degree + 1) - 1);
                Due.is(p + ": the zero form of degree " + degree, 0, () -> x.changed(zero, 0));
                Due.is(p + ": the largest code of degree " + degree, due, () -> x.changed(largest, 0));
            }
        }
    }

    private static void averageOfNoForm() {
        FormForge x = withGenerators(5, matrix(0, 1, 1, 0));
        Due.is("no form at all", Due.INDEX, () -> x.average(0));
        x.form(1, 1);
        Due.is("the only form", 18, () -> x.average(0));
        Due.is("the form behind", Due.INDEX, () -> x.average(1));
        Due.is("the form before", Due.INDEX, () -> x.average(-1));
        x.generator(1, 1, 0, 1);
        Due.is("no average", FormForge.NONE, () -> x.average(0));
        Due.is("no average, and no form", Due.INDEX, () -> x.average(1));
        for (int form : Made.FAR) Due.is("form " + form, Due.INDEX, () -> x.average(form));
    }

    private static void dimensionOfDegrees(Made.OfDegree dimension) {
        for (int p : Made.PRIMES) {
            FormForge x = Made.of(p);
            Due.is(p + ": degree 0", Due.RANGE, () -> dimension.ask(x, 0));
            Due.is(p + ": degree 1", 2, () -> dimension.ask(x, 1));
            Due.is(p + ": degree 4", 5, () -> dimension.ask(x, 4));
            Due.is(p + ": degree 5", Due.RANGE, () -> dimension.ask(x, 5));
            for (int degree : Made.FAR) Due.is(p + ": degree " + degree, Due.RANGE, () -> dimension.ask(x, degree));
        }
    }

    private static void terms() {
        Due.sentence("Terms: its determinant is a d less b c, and is not 0", GroupEdgesTest::determinants);
        Due.sentence("Terms: c x and d y, together, in place of y, both at once", GroupEdgesTest::bothAtOnce);
        Due.sentence("Terms: Generators are matrices, numbered from 0, at most 4", GroupEdgesTest::fourGenerators);
        Due.sentence("Terms: one that is told already, or that changes nothing, has a number of its own, too",
            GroupEdgesTest::numbersOfTheirOwn);
        Due.sentence("Terms: any number of times, and the one that changes nothing",
            GroupEdgesTest::oneThatChangesNothing);
        Due.sentence("Terms: its order is how many they are", GroupEdgesTest::orders);
        Due.sentence("Terms: the first one of the row first", GroupEdgesTest::firstOneFirst);
        Due.sentence("Terms: A form is fixed, if each generator leaves it as it is.", GroupEdgesTest::fixed);
        Due.sentence("Terms: each matrix counted", GroupEdgesTest::eachMatrixCounted);
        Due.sentence("Terms: times the number of the field that makes 1 with the order, modulo p",
            GroupEdgesTest::whatMakesOne);
        Due.sentence("Terms: there is none if p divides the order", GroupEdgesTest::noneIfItDivides);
        Due.sentence("Terms: the number k for which there are p to the power k of them",
            GroupEdgesTest::smallestAndLargestDimensions);
    }

    private static void promises() {
        Due.sentence("Promise 7: a: 0 to p less 1", () -> generatorNumbers(0));
        Due.sentence("Promise 7: b, c and d likewise", () -> generatorNumbers(1));
        Due.sentence("Promise 7: c and d likewise", () -> generatorNumbers(2));
        Due.sentence("Promise 7: d likewise", () -> generatorNumbers(3));
        Due.sentence("Promise 7: its determinant is 0", GroupEdgesTest::noDeterminant);
        Due.sentence("Promise 7: Throws IllegalStateException if there are 4", GroupEdgesTest::noMoreGenerators);
        Due.sentence("Promise 8: Returns the order of the group.", GroupEdgesTest::orderOfTheGroup);
        Due.sentence("Promise 9: Returns the code of a form changed by a generator.",
            GroupEdgesTest::smallestAndLargestCodes);
        Due.sentence("Promise 9: Throws IndexOutOfBoundsException as told, of the form and generator",
            GroupEdgesTest::changedOfNone);
        Due.sentence("Promise 10: Returns NONE without one.", GroupEdgesTest::noneWithoutOne);
        Due.sentence("Promise 10: Throws IndexOutOfBoundsException as told", GroupEdgesTest::averageOfNoForm);
        Due.sentence("Promise 11: degree: 1 to 4", () -> dimensionOfDegrees(FormForge::dimension));
        Due.sentence("Promise 12: Throws IllegalArgumentException as told",
            () -> dimensionOfDegrees(FormForge::dimensionAnew));
    }

    public static void main(String[] args) {
        terms();
        promises();
        Due.close("GroupEdgesTest");
    }
}
