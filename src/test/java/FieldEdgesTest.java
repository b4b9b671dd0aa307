/** The sentences on field and forms that name a boundary, in the terms and the promises 1 to 6: a test of each. */
public final class FieldEdgesTest {
    // ---- terms

    private static void primeAtFirst() {
        FormForge x = new FormForge();
        Due.is("the largest code of 5", 0, () -> x.form(1, 24));
        Due.is("the code behind it", Due.RANGE, () -> x.form(1, 25));
        Due.is("the largest number of 5", 0, () -> x.at(0, 4, 4) > 4 ? 1 : 0);
        Due.is("what it was", 5, () -> x.prime(3));
        Due.is("2 after 3", 3, () -> x.prime(2));
        Due.is("5 after 2", 2, () -> x.prime(5));
    }

    private static void numbersOfTheField() {
        for (int p : Made.PRIMES) {
            FormForge x = Made.withForm(p, 1, 1, 0);
            for (int number = 0; number < p; number++) {
                int n = number;
                Due.is(p + ": at x " + n, n, () -> x.at(0, n, 0));
                Due.is(p + ": at y " + n, 0, () -> x.at(0, 0, n));
            }
            Due.is(p + ": at x p", Due.RANGE, () -> x.at(0, p, 0));
            Due.is(p + ": at y p", Due.RANGE, () -> x.at(0, 0, p));
            Due.is(p + ": generator of p less 1", 0, () -> x.generator(p - 1, p - 1, 0, p - 1));
            Due.is(p + ": generator of p", Due.RANGE, () -> x.generator(1, p, 0, 1));
        }
    }

    private static void sumsBeyondThePrime() {
        // 4 x and 4 y at 4, 4 are 32; five fourths of 4 make 20; 3 x and 2 y at 1, 1 make just 5.
        FormForge x = Made.withForm(5, 1, 4, 4);
        Due.is("32", 2, () -> x.at(0, 4, 4));
        Made.tell(x, 5, 4, 4, 4, 4, 4, 4);
        Due.is("20", 0, () -> x.at(1, 1, 1));
        Made.tell(x, 5, 1, 3, 2);
        Due.is("5", 0, () -> x.at(2, 1, 1));
        Due.is("4 is no more than it is", 4, () -> x.at(2, 3, 0));
        FormForge y = Made.withForm(2, 4, 1, 1, 1, 1, 1);
        Due.is("5 of 2", 1, () -> y.at(0, 1, 1));
        FormForge z = Made.withForm(3, 3, 2, 2, 2, 2);
        Due.is("8 of 3", 2, () -> z.at(0, 1, 1));
        Due.is("64 of 3", 1, () -> z.at(0, 2, 2));
    }

    private static void belowZero() {
        // Less 4, less 8, less 27, less 16: values of forms of two and of three.
        Due.is("less 4", 1, () -> Made.withForm(5, 2, 1, 0, 1).value(0, 0));
        Due.is("less 8", 2, () -> Made.withForm(5, 2, 1, 0, 2).value(0, 0));
        Due.is("less 27", 3, () -> Made.withForm(5, 3, 1, 0, 0, 1).value(0, 0));
        Due.is("less 27 of 3", 0, () -> Made.withForm(3, 3, 1, 0, 0, 1).value(0, 0));
        Due.is("less 16", 4, () -> Made.withForm(5, 3, 4, 4, 4, 4).value(0, 0));
        Due.is("less 16 of 3", 2, () -> Made.withForm(3, 3, 2, 2, 2, 2).value(0, 0));
        Due.is("less 27 of 2", 1, () -> Made.withForm(2, 3, 1, 0, 0, 1).value(0, 0));
        FormForge x = Made.withForm(5, 2, 0, 0, 1);
        Made.tell(x, 5, 2, 1, 0, 0);
        Due.is("less 4 xy", Made.code(5, 0, 1, 0), () -> x.transvectant(0, 1, 1));
        Due.is("a determinant of less 1", 0, () -> x.generator(0, 1, 1, 0));
        Due.is("a determinant of less 5", Due.RANGE, () -> x.generator(1, 2, 3, 1));
    }

    private static void degrees() {
        FormForge x = new FormForge();
        Due.is("degree 0", Due.RANGE, () -> x.form(0, 0));
        Due.is("degree 5", Due.RANGE, () -> x.form(5, 0));
        for (int degree = 1; degree <= 4; degree++) {
            int n = degree;
            Due.is("degree " + n, n - 1, () -> x.form(n, 0));
            Due.is("degree " + n + " told back", n, () -> x.formIs(n - 1, 0));
        }
    }

    private static void codesAreNumbers() {
        for (int p : Made.PRIMES) {
            for (int degree = 1; degree <= 4; degree++) {
                int most = Made.power(p, degree + 1) - 1;
                FormForge x = Made.of(p);
                x.form(degree, most);
                Due.is(p + ": the largest code of degree " + degree, most, () -> x.formIs(0, 1));
                Due.is(p + ": its first coefficient", p - 1, () -> x.at(0, 1, 0));
                Due.is(p + ": its last coefficient", p - 1, () -> x.at(0, 0, 1));
                Due.is(p + ": all of them", (degree + 1) * (p - 1) % p, () -> x.at(0, 1, 1));
            }
        }
    }

    private static void twentyForms() {
        FormForge x = new FormForge();
        for (int number = 0; number < 20; number++) {
            int n = number;
            Due.is("form " + n, n, () -> x.form(1, n));
        }
        Due.is("one more", Due.STATE, () -> x.form(1, 20));
        for (int number = 0; number < 20; number++) {
            int n = number;
            Due.is("form " + n + " is as told", n, () -> x.formIs(n, 1));
        }
        Due.is("form 20", Due.INDEX, () -> x.formIs(20, 1));
        Due.is("form -1", Due.INDEX, () -> x.formIs(-1, 1));
    }

    private static void zeroForms() {
        for (int p : Made.PRIMES) {
            for (int degree = 1; degree <= 4; degree++) {
                int[] due = {degree, 0, p + 1, 1, 1, 1, 0};
                FormForge x = Made.withAllMatrices(p);
                x.form(degree, 0);
                for (int what = 0; what <= 6; what++) {
                    int w = what;
                    Due.is(p + ": zero form of degree " + degree + " is " + w, due[w], () -> x.formIs(0, w));
                }
                Due.is(p + ": it changed", 0, () -> x.changed(0, 0));
                Due.is(p + ": at the largest numbers", 0, () -> x.at(0, p - 1, p - 1));
            }
        }
    }

    private static void points() {
        for (int p : Made.PRIMES) {
            FormForge x = Made.of(p);
            for (int t = 0; t < p; t++) Made.tell(x, p, 1, 1, (p - t) % p);
            Made.tell(x, p, 1, 0, 1);
            for (int form = 0; form <= p; form++) {
                for (int point = 0; point <= p; point++) {
                    int f = form;
                    int t = point;
                    Due.is(p + ": point " + t + " of the form of " + f, f == t ? 1 : 0, () -> x.multiplicity(f, t));
                    Due.is(p + ": there it is 0 or not", f == t ? 1 : 0,
                        () -> (t < p ? x.at(f, t, 1) : x.at(f, 1, 0)) == 0 ? 1 : 0);
                }
            }
            Due.is(p + ": point -1", Due.INDEX, () -> x.multiplicity(0, -1));
            Due.is(p + ": point p and 1", Due.INDEX, () -> x.multiplicity(0, p + 1));
        }
    }

    private static void multiplicities(String name, int prime, int[] due, int degree, int... coefficients) {
        FormForge x = Made.withForm(prime, degree, coefficients);
        for (int point = 0; point <= prime; point++) {
            int t = point;
            Due.is(name + " at " + t, due[t], () -> x.multiplicity(0, t));
        }
    }

    private static void asOftenAsItCan() {
        multiplicities("never", 5, new int[] {0, 0, 0, 0, 0, 0}, 2, 2, 0, 1);
        multiplicities("never of 2", 2, new int[] {0, 0, 0}, 4, 1, 1, 0, 0, 1);
        multiplicities("once", 5, new int[] {1, 0, 0, 0, 0, 1}, 2, 0, 1, 0);
        multiplicities("once, and no more by it", 5, new int[] {0, 1, 0, 0, 0, 0}, 3, 1, 4, 2, 3);
        multiplicities("as often as the degree", 5, new int[] {0, 0, 4, 0, 0, 0}, 4, 1, 2, 4, 3, 1);
        multiplicities("xxxx", 5, new int[] {4, 0, 0, 0, 0, 0}, 4, 1, 0, 0, 0, 0);
        multiplicities("yyyy", 5, new int[] {0, 0, 0, 0, 0, 4}, 4, 0, 0, 0, 0, 1);
        multiplicities("4 y", 5, new int[] {0, 0, 0, 0, 0, 1}, 1, 0, 4);
        // More often than the prime itself.
        multiplicities("xxxx and yyyy of 2", 2, new int[] {0, 4, 0}, 4, 1, 0, 0, 0, 1);
        multiplicities("xxx less yyy of 3", 3, new int[] {0, 3, 0, 0}, 3, 1, 0, 0, 2);
        multiplicities("xxxx and xyyy of 3", 3, new int[] {1, 0, 3, 0}, 4, 1, 0, 0, 1, 0);
    }

    private static void zeroFormAndOneMore() {
        for (int p : Made.PRIMES) {
            for (int degree = 1; degree <= 4; degree++) {
                FormForge x = Made.of(p);
                x.form(degree, 0);
                for (int point = 0; point <= p; point++) {
                    int t = point;
                    Due.is(p + ": zero form of degree " + degree + " at " + t, degree + 1, () -> x.multiplicity(0, t));
                }
            }
        }
    }

    private static void roots(String name, int prime, int due, int degree, int... coefficients) {
        Due.is(name, due, () -> Made.withForm(prime, degree, coefficients).formIs(0, 2));
    }

    private static void rootsFromOneOn() {
        roots("no root", 5, 0, 2, 2, 0, 1);
        roots("a square without one", 5, 0, 4, 4, 0, 4, 0, 1);
        roots("one of multiplicity 1", 5, 1, 1, 1, 0);
        roots("one of multiplicity 4", 5, 1, 4, 0, 0, 0, 0, 3);
        roots("two of 1", 5, 2, 2, 1, 0, 1);
        roots("two of 2", 5, 2, 4, 0, 0, 1, 0, 0);
        roots("as many as the degree", 5, 4, 4, 1, 0, 0, 0, 4);
        roots("each point of 2", 2, 3, 3, 0, 1, 1, 0);
        roots("each point of 3", 3, 4, 4, 0, 1, 0, 2, 0);
        roots("each point of the zero form", 5, 6, 1, 0, 0);
    }

    private static void nullIs(String name, int prime, int due, int degree, int... coefficients) {
        Due.is(name, due, () -> Made.withForm(prime, degree, coefficients).formIs(0, 3));
    }

    private static void moreThanHalf() {
        nullIs("1 of 1", 5, 1, 1, 3, 4);
        nullIs("0 of 2", 5, 0, 2, 2, 0, 1);
        nullIs("1 of 2, just half", 5, 0, 2, 0, 1, 0);
        nullIs("2 of 2", 5, 1, 2, 1, 1, 4);
        nullIs("1 of 3", 5, 0, 3, 0, 1, 4, 0);
        nullIs("2 of 3", 5, 1, 3, 0, 1, 0, 0);
        nullIs("3 of 3 at the last point", 5, 1, 3, 0, 0, 0, 1);
        nullIs("1 of 4", 5, 0, 4, 1, 0, 0, 0, 4);
        nullIs("2 of 4, just half", 5, 0, 4, 0, 0, 1, 0, 0);
        nullIs("3 of 4", 5, 1, 4, 0, 1, 0, 0, 0);
        nullIs("3 of 4 at the last point", 5, 1, 4, 0, 0, 0, 1, 0);
        nullIs("4 of 4", 5, 1, 4, 1, 2, 4, 3, 1);
        nullIs("zero form of degree 4", 5, 1, 4, 0, 0, 0, 0, 0);
        nullIs("2 of 4 of 2, just half", 2, 0, 4, 0, 0, 1, 0, 0);
        nullIs("3 of 4 of 3", 3, 1, 4, 1, 0, 0, 1, 0);
    }

    // ---- promises 1 to 6

    private static void begins() {
        FormForge x = new FormForge();
        Due.is("no form", Due.INDEX, () -> x.formIs(0, 0));
        Due.is("no multiplicity", Due.INDEX, () -> x.multiplicity(0, 0));
        Due.is("no average", Due.INDEX, () -> x.average(0));
        Due.is("no way", Due.INDEX, () -> x.way(0, 0));
        Due.is("the group of no generators", 1, () -> x.order());
        Due.is("weighs without any", 1, () -> x.weighs() ? 1 : 0);
        Due.is("the first form", 0, () -> x.form(1, 7));
        Due.is("no generator", Due.INDEX, () -> x.changed(0, 0));
        Due.is("the first generator", 0, () -> x.generator(4, 0, 0, 4));
        Due.is("the prime", 5, () -> x.prime(5));
    }

    private static void allGone() {
        for (int p : Made.PRIMES) {
            FormForge x = Made.full(p);
            x.orbitsAnew(1);
            Due.is(p + ": the same prime", p, () -> x.prime(p));
            Due.is(p + ": no form", Due.INDEX, () -> x.formIs(0, 1));
            Due.is(p + ": order", 1, () -> x.order());
            Due.is(p + ": orbits", p * p, () -> x.orbits(1));
            Due.is(p + ": orbits anew", p * p, () -> x.orbitsAnew(1));
            Due.is(p + ": dimension", 2, () -> x.dimension(1));
            Due.is(p + ": a form's number", 0, () -> x.form(1, 2));
            Due.is(p + ": no generator", Due.INDEX, () -> x.changed(0, 0));
            Due.is(p + ": a generator's number", 0, () -> x.generator(0, 1, 1, 0));
            for (int form = 1; form < 20; form++) x.form(2, 1);
            for (int generator = 1; generator < 4; generator++) x.generator(1, 0, 0, 1);
            Due.is(p + ": full again", Due.STATE, () -> x.form(2, 1));
            Due.is(p + ": of generators, too", Due.STATE, () -> x.generator(1, 0, 0, 1));
            Due.is(p + ": those of before are forgotten", 2, () -> x.order());
        }
    }

    private static void threePrimes() {
        for (int p = -30; p <= 30; p++) {
            int to = p;
            FormForge x = new FormForge();
            boolean right = p == 2 || p == 3 || p == 5;
            Due.is("prime " + p, right ? "5" : Due.RANGE, () -> x.prime(to));
            Due.is("after " + p, right ? p : 5, () -> x.prime(5));
        }
        for (int p : Made.FAR) Due.is("prime " + p, Due.RANGE, () -> new FormForge().prime(p));
    }

    private static void whatItWas() {
        FormForge x = new FormForge();
        int was = 5;
        for (int p : new int[] {5, 5, 2, 2, 3, 3, 5, 3, 2, 5}) {
            Due.is("prime " + p, was, () -> x.prime(p));
            Due.is("a wrong one behind it", Due.RANGE, () -> x.prime(p * p));
            was = p;
        }
    }

    private static void formDegrees() {
        for (int p : Made.PRIMES) {
            FormForge x = Made.of(p);
            for (int degree : Made.FAR) Due.is(p + ": degree " + degree, Due.RANGE, () -> x.form(degree, 0));
            Due.is(p + ": degree 0", Due.RANGE, () -> x.form(0, 0));
            Due.is(p + ": degree 5", Due.RANGE, () -> x.form(5, 0));
            Due.is(p + ": degree 1", 0, () -> x.form(1, 0));
            Due.is(p + ": degree 4", 1, () -> x.form(4, 0));
        }
    }

    private static void formCodes() {
        for (int p : Made.PRIMES) {
            for (int degree = 1; degree <= 4; degree++) {
                int n = degree;
                int end = Made.power(p, degree + 1);
                FormForge x = Made.of(p);
                for (int code : Made.FAR) Due.is(p + ": code " + code, Due.RANGE, () -> x.form(n, code));
                Due.is(p + ": code -1 of degree " + n, Due.RANGE, () -> x.form(n, -1));
                Due.is(p + ": code 0 of degree " + n, 0, () -> x.form(n, 0));
                Due.is(p + ": code " + (end - 1) + " of degree " + n, 1, () -> x.form(n, end - 1));
                Due.is(p + ": code " + end + " of degree " + n, Due.RANGE, () -> x.form(n, end));
            }
        }
    }

    private static void noMoreForms() {
        for (int p : Made.PRIMES) {
            FormForge x = Made.of(p);
            for (int form = 0; form < 19; form++) x.form(4, 0);
            Due.is(p + ": the last one", 19, () -> x.form(1, p));
            Due.is(p + ": one more", Due.STATE, () -> x.form(1, p));
            Due.is(p + ": and again", Due.STATE, () -> x.form(4, 0));
            Due.is(p + ": one more of a wrong degree", Due.RANGE, () -> x.form(5, 0));
            Due.is(p + ": one more of a wrong code", Due.RANGE, () -> x.form(1, p * p));
            Due.is(p + ": the last one stays", p, () -> x.formIs(19, 1));
            x.prime(p);
            Due.is(p + ": room again", 0, () -> x.form(1, p));
        }
    }

    private static void sevenWhats() {
        FormForge x = Made.withForm(5, 2, 0, 1, 0);
        int[] due = {2, 5, 2, 0, 1, 1, 5};
        for (int what = 0; what <= 6; what++) {
            int w = what;
            Due.is("what " + w, due[w], () -> x.formIs(0, w));
        }
        Due.is("what -1", Due.RANGE, () -> x.formIs(0, -1));
        Due.is("what 7", Due.RANGE, () -> x.formIs(0, 7));
        for (int what : Made.FAR) Due.is("what " + what, Due.RANGE, () -> x.formIs(0, what));
    }

    private static void formIsOfNoForm() {
        FormForge x = Made.withForm(5, 2, 0, 1, 0);
        for (int form : Made.FAR) {
            Due.is("form " + form, Due.INDEX, () -> x.formIs(form, 0));
            Due.is("form " + form + " and a wrong what", Due.INDEX, () -> x.formIs(form, 7));
        }
        Due.is("the form behind the last", Due.INDEX, () -> x.formIs(1, 0));
        FormForge full = Made.full(3);
        Due.is("the last of twenty", 4, () -> full.formIs(19, 0));
        Due.is("behind the last of twenty", Due.INDEX, () -> full.formIs(20, 0));
    }

    private static void atX() {
        for (int p : Made.PRIMES) {
            FormForge x = Made.withForm(p, 2, 1, 0, 0);
            Due.is(p + ": x 0", 0, () -> x.at(0, 0, 1));
            Due.is(p + ": x p less 1", 1, () -> x.at(0, p - 1, 1));
            Due.is(p + ": x -1", Due.RANGE, () -> x.at(0, -1, 1));
            Due.is(p + ": x p", Due.RANGE, () -> x.at(0, p, 1));
            for (int number : Made.FAR) Due.is(p + ": x " + number, Due.RANGE, () -> x.at(0, number, 1));
        }
    }

    private static void atY() {
        for (int p : Made.PRIMES) {
            FormForge x = Made.withForm(p, 2, 0, 0, 1);
            Due.is(p + ": y 0", 0, () -> x.at(0, 1, 0));
            Due.is(p + ": y p less 1", 1, () -> x.at(0, 1, p - 1));
            Due.is(p + ": y -1", Due.RANGE, () -> x.at(0, 1, -1));
            Due.is(p + ": y p", Due.RANGE, () -> x.at(0, 1, p));
            for (int number : Made.FAR) Due.is(p + ": y " + number, Due.RANGE, () -> x.at(0, 1, number));
        }
    }

    private static void atOfNoForm() {
        FormForge x = Made.withForm(5, 2, 1, 1, 1);
        Due.is("the form of x and y 0", 0, () -> x.at(0, 0, 0));
        Due.is("the form before", Due.INDEX, () -> x.at(-1, 1, 1));
        Due.is("the form behind the last", Due.INDEX, () -> x.at(1, 1, 1));
        Due.is("the form behind and a wrong x", Due.INDEX, () -> x.at(1, 5, 0));
        Due.is("the form behind and a wrong y", Due.INDEX, () -> x.at(1, 0, -1));
        for (int form : Made.FAR) Due.is("form " + form, Due.INDEX, () -> x.at(form, form, form));
        FormForge full = Made.full(2);
        Due.is("the last of twenty", 1, () -> full.at(19, 0, 1) + full.at(19, 1, 0));
        Due.is("behind the last of twenty", Due.INDEX, () -> full.at(20, 0, 0));
    }

    private static void multiplicityOfNoPoint() {
        for (int p : Made.PRIMES) {
            FormForge x = Made.withForm(p, 2, 0, 0, 1);
            Due.is(p + ": the first point", 0, () -> x.multiplicity(0, 0));
            Due.is(p + ": the last point", 2, () -> x.multiplicity(0, p));
            Due.is(p + ": the point before", Due.INDEX, () -> x.multiplicity(0, -1));
            Due.is(p + ": the point behind", Due.INDEX, () -> x.multiplicity(0, p + 1));
            Due.is(p + ": the form before", Due.INDEX, () -> x.multiplicity(-1, 0));
            Due.is(p + ": the form behind", Due.INDEX, () -> x.multiplicity(1, 0));
            for (int number : Made.FAR) {
                Due.is(p + ": point " + number, Due.INDEX, () -> x.multiplicity(0, number));
                Due.is(p + ": form " + number, Due.INDEX, () -> x.multiplicity(number, 0));
            }
        }
    }

    private static void terms() {
        Due.sentence("Terms: The field has a prime p, 2, 3 or 5, 5 at first", FieldEdgesTest::primeAtFirst);
        Due.sentence("Terms: its numbers are 0 to p less 1", FieldEdgesTest::numbersOfTheField);
        Due.sentence("Terms: what a sum or a product is below is what it is modulo p, 0 to p less 1",
            FieldEdgesTest::sumsBeyondThePrime);
        Due.sentence("Terms: (also of what is below 0)", FieldEdgesTest::belowZero);
        Due.sentence("Terms: A form has a degree n, 1 to 4", FieldEdgesTest::degrees);
        Due.sentence("Terms: as a number (not modulo p)", FieldEdgesTest::codesAreNumbers);
        Due.sentence("Terms: Forms are numbered from 0, at most 20.", FieldEdgesTest::twentyForms);
        Due.sentence("Terms: The zero form has the code 0.", FieldEdgesTest::zeroForms);
        Due.sentence("Terms: The points are numbered 0 to p", FieldEdgesTest::points);
        Due.sentence("Terms: how often it can be divided by x less t y (by y, at the point p) without a rest",
            FieldEdgesTest::asOftenAsItCan);
        Due.sentence("Terms: of the zero form it is its degree and 1", FieldEdgesTest::zeroFormAndOneMore);
        Due.sentence("Terms: A root is a point with a multiplicity of at least 1.", FieldEdgesTest::rootsFromOneOn);
        Due.sentence("Terms: at some point twice its multiplicity is more than its degree",
            FieldEdgesTest::moreThanHalf);
    }

    private static void promises() {
        Due.sentence("Promise 1: Begins with the prime 5, without generators and forms.", FieldEdgesTest::begins);
        Due.sentence("Promise 2: all generators and forms are gone then, also if it is the same",
            FieldEdgesTest::allGone);
        Due.sentence("Promise 2: p: 2, 3 or 5", FieldEdgesTest::threePrimes);
        Due.sentence("Promise 2: Returns what it was.", FieldEdgesTest::whatItWas);
        Due.sentence("Promise 3: degree: 1 to 4", FieldEdgesTest::formDegrees);
        Due.sentence("Promise 3: code: 0 to p to the power of the degree and 1, less 1", FieldEdgesTest::formCodes);
        Due.sentence("Promise 3: Throws IllegalStateException if there are 20", FieldEdgesTest::noMoreForms);
        Due.sentence("Promise 4: what: 0 to 6", FieldEdgesTest::sevenWhats);
        Due.sentence("Promise 4: Throws IndexOutOfBoundsException as told", FieldEdgesTest::formIsOfNoForm);
        Due.sentence("Promise 5: x: 0 to p less 1", FieldEdgesTest::atX);
        Due.sentence("Promise 5: y: 0 to p less 1", FieldEdgesTest::atY);
        Due.sentence("Promise 5: Throws IndexOutOfBoundsException as told", FieldEdgesTest::atOfNoForm);
        Due.sentence("Promise 6: Throws IndexOutOfBoundsException as told, of the form and point",
            FieldEdgesTest::multiplicityOfNoPoint);
    }

    public static void main(String[] args) {
        terms();
        promises();
        Due.close("FieldEdgesTest");
    }
}
