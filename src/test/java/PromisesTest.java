/** Each promise with answers found by hand: ordinary inputs, the edges that the document names, wrong inputs. */
public final class PromisesTest {
    private static final int LEAST = Integer.MIN_VALUE;
    private static final int MOST = Integer.MAX_VALUE;

    private static void newObject() {
        FormForge x = new FormForge();
        Due.is("NONE", -1, () -> FormForge.NONE);
        Due.is("new order", 1, () -> x.order());
        Due.is("new weighs", 1, () -> x.weighs() ? 1 : 0);
        Due.is("new formIs", Due.INDEX, () -> x.formIs(0, 0));
        Due.is("new dimension", 5, () -> x.dimension(4));
        Due.is("new orbits", 3125, () -> x.orbits(4));
        Due.is("new form", 0, () -> x.form(4, 3124));
        Due.is("new changed", Due.INDEX, () -> x.changed(0, 0));
        Due.is("new average", 3124, () -> x.average(0));
        Due.is("new generator", 0, () -> x.generator(4, 0, 0, 4));
        Due.is("new prime", 5, () -> x.prime(3));
        FormForge y = new FormForge();
        Due.is("another object's prime", 5, () -> y.prime(5));
        Due.is("another object's forms", Due.INDEX, () -> y.formIs(0, 0));
    }

    private static void prime() {
        FormForge x = new FormForge();
        for (int p : new int[] {LEAST, -5, -2, 0, 1, 4, 6, 7, 10, MOST}) {
            Due.is("prime " + p, Due.RANGE, () -> x.prime(p));
        }
        x.form(1, 24);
        x.generator(2, 0, 0, 1);
        Due.is("wrong prime", Due.RANGE, () -> x.prime(7));
        Due.is("form after a wrong prime", 24, () -> x.formIs(0, 1));
        Due.is("order after a wrong prime", 4, () -> x.order());
        Due.is("the same prime", 5, () -> x.prime(5));
        Due.is("form after the same prime", Due.INDEX, () -> x.formIs(0, 1));
        Due.is("order after the same prime", 1, () -> x.order());
        Due.is("form again", 0, () -> x.form(1, 24));
        Due.is("generator again", Due.INDEX, () -> x.changed(0, 0));
        Due.is("prime 2", 5, () -> x.prime(2));
        Due.is("prime 3", 2, () -> x.prime(3));
        Due.is("prime 5", 3, () -> x.prime(5));
    }

    private static void form() {
        FormForge x = new FormForge();
        for (int degree : new int[] {LEAST, -1, 0, 5, MOST}) {
            Due.is("form degree " + degree, Due.RANGE, () -> x.form(degree, 0));
        }
        int[] primes = {2, 3, 5};
        int[][] codes = {{4, 8, 16, 32}, {9, 27, 81, 243}, {25, 125, 625, 3125}};
        for (int i = 0; i < 3; i++) {
            x.prime(primes[i]);
            for (int degree = 1; degree <= 4; degree++) {
                int n = degree;
                int end = codes[i][degree - 1];
                int told = 2 * degree - 2;
                Due.is("form code " + end, Due.RANGE, () -> x.form(n, end));
                Due.is("form code -1", Due.RANGE, () -> x.form(n, -1));
                Due.is("form code most", Due.RANGE, () -> x.form(n, MOST));
                Due.is("form code 0", told, () -> x.form(n, 0));
                Due.is("form code " + (end - 1), told + 1, () -> x.form(n, end - 1));
                Due.is("form is", end - 1, () -> x.formIs(told + 1, 1));
            }
        }
        x.prime(5);
        for (int i = 0; i < 20; i++) {
            int number = i;
            Due.is("form of twenty", number, () -> x.form(2, 7));
        }
        Due.is("form 20", Due.STATE, () -> x.form(2, 7));
        Due.is("form 20 of wrong code", Due.RANGE, () -> x.form(2, 125));
        Due.is("form 20 of wrong degree", Due.RANGE, () -> x.form(5, 1));
        Due.is("form 19 is", 7, () -> x.formIs(19, 1));
        Due.is("form 20 is not", Due.INDEX, () -> x.formIs(20, 1));
    }

    private static void formIs(String name, FormForge x, int form, int... want) {
        for (int what = 0; what < want.length; what++) {
            int w = what;
            Due.is(name + " formIs " + w, want[w], () -> x.formIs(form, w));
        }
    }

    private static void formIs() {
        FormForge x = new FormForge();
        x.form(2, 5);
        x.form(2, 1);
        x.form(3, 0);
        x.form(4, 530);
        x.form(4, 1605);
        x.form(2, 27);
        x.form(1, 5);
        x.form(1, 6);
        formIs("xy without generators", x, 0, 2, 5, 2, 0, 1, 1, 5);
        x.generator(0, 1, 1, 0);
        formIs("xy", x, 0, 2, 5, 2, 0, 1, 1, 5);
        formIs("xx", x, 1, 2, 1, 1, 1, 0, 2, 1);
        formIs("zero form", x, 2, 3, 0, 6, 1, 1, 1, 0);
        // x y (x less 2 y) squared, and y times the third power of x less 2 y.
        formIs("two of four", x, 3, 4, 530, 3, 0, 0, 2, 170);
        formIs("three of four", x, 4, 4, 1605, 2, 1, 0, 2, 237);
        formIs("no root", x, 5, 2, 27, 0, 0, 0, 2, 27);
        formIs("y", x, 6, 1, 5, 1, 1, 0, 2, 1);
        formIs("x and y", x, 7, 1, 6, 1, 1, 1, 1, 6);
        x.generator(2, 0, 0, 1);
        formIs("xy of two generators", x, 0, 2, 5, 2, 0, 0, 4, 5);
        formIs("y of two generators", x, 6, 1, 5, 1, 1, 0, 8, 1);
        for (int what : new int[] {LEAST, -1, 7, MOST}) {
            Due.is("formIs " + what, Due.RANGE, () -> x.formIs(0, what));
        }
        for (int form : new int[] {LEAST, -1, 8, 20, MOST}) {
            Due.is("formIs of form " + form, Due.INDEX, () -> x.formIs(form, 0));
            Due.is("formIs of form " + form + " and wrong what", Due.INDEX, () -> x.formIs(form, 7));
        }
    }

    private static void at() {
        FormForge x = new FormForge();
        x.form(2, 27);
        x.form(4, 1605);
        Due.is("at 1, 1", 3, () -> x.at(0, 1, 1));
        Due.is("at 2, 1", 4, () -> x.at(0, 2, 1));
        Due.is("at 1, 2", 1, () -> x.at(0, 1, 2));
        Due.is("at 0, 0", 0, () -> x.at(0, 0, 0));
        Due.is("at 1, 0", 2, () -> x.at(0, 1, 0));
        Due.is("at 0, 1", 1, () -> x.at(0, 0, 1));
        Due.is("at a root", 0, () -> x.at(1, 2, 1));
        Due.is("at 3, 1", 1, () -> x.at(1, 3, 1));
        Due.is("at 1, 3", 0, () -> x.at(1, 1, 3));
        Due.is("at 4, 4", 4, () -> x.at(1, 4, 4));
        for (int number : new int[] {LEAST, -1, 5, MOST}) {
            Due.is("at x " + number, Due.RANGE, () -> x.at(0, number, 0));
            Due.is("at y " + number, Due.RANGE, () -> x.at(0, 0, number));
            Due.is("at of form 2", Due.INDEX, () -> x.at(2, number, 0));
        }
        Due.is("at of form -1", Due.INDEX, () -> x.at(-1, 0, 0));
        x.prime(2);
        x.form(1, 3);
        Due.is("at 1, 1 of 2", 0, () -> x.at(0, 1, 1));
        Due.is("at 2, 0 of 2", Due.RANGE, () -> x.at(0, 2, 0));
    }

    private static void multiplicities(String name, FormForge x, int form, int... want) {
        for (int point = 0; point < want.length; point++) {
            int t = point;
            Due.is(name + " multiplicity at " + t, want[t], () -> x.multiplicity(form, t));
        }
        Due.is(name + " point behind", Due.INDEX, () -> x.multiplicity(form, want.length));
        Due.is(name + " point -1", Due.INDEX, () -> x.multiplicity(form, -1));
        Due.is(name + " point least", Due.INDEX, () -> x.multiplicity(form, LEAST));
        Due.is(name + " point most", Due.INDEX, () -> x.multiplicity(form, MOST));
    }

    private static void multiplicity() {
        FormForge x = new FormForge();
        x.form(4, 530);
        x.form(4, 1605);
        x.form(3, 0);
        x.form(3, 125);
        x.form(1, 0);
        multiplicities("two of four", x, 0, 1, 0, 2, 0, 0, 1);
        multiplicities("three of four", x, 1, 0, 0, 3, 0, 0, 1);
        multiplicities("zero form", x, 2, 4, 4, 4, 4, 4, 4);
        multiplicities("yyy", x, 3, 0, 0, 0, 0, 0, 3);
        multiplicities("zero form of degree 1", x, 4, 2, 2, 2, 2, 2, 2);
        Due.is("multiplicity of form 5", Due.INDEX, () -> x.multiplicity(5, 0));
        Due.is("multiplicity of form -1", Due.INDEX, () -> x.multiplicity(-1, 0));
        x.prime(2);
        x.form(2, 5);
        multiplicities("xx and yy of 2", x, 0, 0, 2, 0);
        x.prime(3);
        x.form(3, 28);
        multiplicities("xxx and yyy of 3", x, 0, 0, 0, 3, 0);
    }

    private static void generator() {
        FormForge x = new FormForge();
        int[] wrong = {LEAST, -1, 5, MOST};
        for (int number : wrong) {
            Due.is("generator a " + number, Due.RANGE, () -> x.generator(number, 0, 0, 1));
            Due.is("generator b " + number, Due.RANGE, () -> x.generator(1, number, 0, 1));
            Due.is("generator c " + number, Due.RANGE, () -> x.generator(1, 0, number, 1));
            Due.is("generator d " + number, Due.RANGE, () -> x.generator(1, 0, 0, number));
        }
        Due.is("generator 0", Due.RANGE, () -> x.generator(0, 0, 0, 0));
        Due.is("generator 1 2 2 4", Due.RANGE, () -> x.generator(1, 2, 2, 4));
        Due.is("generator 2 1 1 3", Due.RANGE, () -> x.generator(2, 1, 1, 3));
        Due.is("order after wrong ones", 1, () -> x.order());
        Due.is("generator that changes nothing", 0, () -> x.generator(1, 0, 0, 1));
        Due.is("order of nothing", 1, () -> x.order());
        Due.is("generator", 1, () -> x.generator(1, 1, 0, 1));
        Due.is("the same generator", 2, () -> x.generator(1, 1, 0, 1));
        Due.is("order of the same", 5, () -> x.order());
        Due.is("the last generator", 3, () -> x.generator(0, 1, 4, 0));
        Due.is("order of four", 120, () -> x.order());
        Due.is("generator 4", Due.STATE, () -> x.generator(2, 0, 0, 1));
        Due.is("generator 4 of determinant 0", Due.RANGE, () -> x.generator(1, 1, 1, 1));
        Due.is("generator 4 out of range", Due.RANGE, () -> x.generator(5, 0, 0, 1));
        Due.is("order as before", 120, () -> x.order());
        x.prime(2);
        Due.is("generator of 2", Due.RANGE, () -> x.generator(0, 2, 1, 0));
        Due.is("generator of 2 and determinant 0", Due.RANGE, () -> x.generator(1, 1, 1, 1));
        Due.is("the first generator of 2", 0, () -> x.generator(1, 1, 1, 0));
        Due.is("order of it", 3, () -> x.order());
    }

    private static void order() {
        FormForge x = new FormForge();
        x.generator(2, 0, 0, 1);
        Due.is("order 4", 4, () -> x.order());
        x.generator(1, 1, 0, 1);
        Due.is("order 20", 20, () -> x.order());
        x.generator(0, 1, 1, 0);
        Due.is("order 480", 480, () -> x.order());
        x.prime(3);
        Due.is("order anew", 1, () -> x.order());
        x.generator(2, 0, 0, 1);
        x.generator(1, 1, 0, 1);
        x.generator(0, 1, 1, 0);
        Due.is("order 48", 48, () -> x.order());
        x.prime(2);
        x.generator(1, 1, 0, 1);
        Due.is("order 2", 2, () -> x.order());
        x.generator(1, 0, 1, 1);
        Due.is("order 6", 6, () -> x.order());
    }

    private static void changed() {
        FormForge x = new FormForge();
        x.generator(1, 2, 3, 4);
        x.generator(1, 1, 0, 1);
        x.form(1, 1);
        x.form(1, 5);
        x.form(2, 5);
        x.form(4, 0);
        x.form(4, 625);
        Due.is("x changed", 11, () -> x.changed(0, 0));
        Due.is("y changed", 23, () -> x.changed(1, 0));
        // (x and 2 y) times (3 x and 4 y) is 3 xx, 10 xy, 8 yy.
        Due.is("xy changed", 78, () -> x.changed(2, 0));
        Due.is("xy changed by the other", 30, () -> x.changed(2, 1));
        Due.is("the zero form changed", 0, () -> x.changed(3, 0));
        // 3 x and 4 y is 3 times x less 2 y, whose fourth power has 1, 2, 4, 3, 1.
        Due.is("yyyy changed", 1 + 2 * 5 + 4 * 25 + 3 * 125 + 625, () -> x.changed(4, 0));
        Due.is("the form itself stays", 5, () -> x.formIs(2, 1));
        for (int number : new int[] {LEAST, -1, 5, MOST}) {
            Due.is("changed form " + number, Due.INDEX, () -> x.changed(number, 0));
        }
        for (int number : new int[] {LEAST, -1, 2, 3, 4, MOST}) {
            Due.is("changed by generator " + number, Due.INDEX, () -> x.changed(0, number));
        }
    }

    private static void average() {
        FormForge x = new FormForge();
        x.form(2, 1);
        x.form(1, 1);
        x.form(2, 13);
        Due.is("average of one matrix", 13, () -> x.average(2));
        x.generator(0, 1, 1, 0);
        Due.is("average of xx", 78, () -> x.average(0));
        Due.is("average of x", 18, () -> x.average(1));
        x.generator(4, 0, 0, 4);
        Due.is("average of x and less x", 0, () -> x.average(1));
        Due.is("average of xx, each matrix counted", 78, () -> x.average(0));
        x.generator(1, 1, 0, 1);
        Due.is("average without one", -1, () -> x.average(0));
        Due.is("average of form 3", Due.INDEX, () -> x.average(3));
        Due.is("average of form -1", Due.INDEX, () -> x.average(-1));
        x.prime(3);
        x.generator(1, 1, 0, 1);
        x.form(3, 0);
        Due.is("average of the zero form without one", -1, () -> x.average(0));
        x.prime(2);
        x.generator(1, 1, 1, 0);
        x.form(1, 1);
        x.form(2, 1);
        Due.is("average of 2", 0, () -> x.average(0));
        // xx, xx and yy, yy.
        Due.is("average of xx of 2", 0, () -> x.average(1));
        x.form(2, 2);
        // xy, xx and xy, xy and yy: 3 times.
        Due.is("average of xy of 2", 7, () -> x.average(2));
    }

    private static void dimensions(String name, FormForge x, int... want) {
        for (int degree = 1; degree <= 4; degree++) {
            int n = degree;
            Due.is(name + " dimension " + n, want[n - 1], () -> x.dimension(n));
            Due.is(name + " dimensionAnew " + n, want[n - 1], () -> x.dimensionAnew(n));
        }
        for (int degree : new int[] {LEAST, -1, 0, 5, MOST}) {
            Due.is(name + " dimension " + degree, Due.RANGE, () -> x.dimension(degree));
            Due.is(name + " dimensionAnew " + degree, Due.RANGE, () -> x.dimensionAnew(degree));
        }
    }

    private static void dimension() {
        FormForge x = new FormForge();
        dimensions("nothing", x, 2, 3, 4, 5);
        x.generator(0, 1, 1, 0);
        dimensions("swap", x, 1, 2, 2, 3);
        x.generator(1, 0, 0, 1);
        dimensions("swap and nothing", x, 1, 2, 2, 3);
        x.generator(4, 0, 0, 1);
        dimensions("swap and sign", x, 0, 1, 0, 2);
        x.prime(2);
        dimensions("nothing of 2", x, 2, 3, 4, 5);
        x.generator(0, 1, 1, 0);
        x.generator(1, 1, 0, 1);
        dimensions("all of 2", x, 0, 1, 1, 1);
        x.prime(3);
        x.generator(1, 1, 0, 1);
        dimensions("shear of 3", x, 1, 1, 2, 2);
    }

    private static void transvectant(String name, int degree, int code, int other, int otherCode, long... want) {
        FormForge x = new FormForge();
        x.form(degree, code);
        x.form(other, otherCode);
        for (int k = 0; k < want.length; k++) {
            int times = k;
            String due = want[k] < 0 ? Due.RANGE : Long.toString(want[k]);
            Due.is(name + " transvectant " + k, due, () -> x.transvectant(0, 1, times));
        }
        for (int k : new int[] {LEAST, -1, want.length, MOST}) {
            Due.is(name + " transvectant " + k, Due.RANGE, () -> x.transvectant(0, 1, k));
        }
    }

    private static void transvectants() {
        transvectant("x, x", 1, 1, 1, 1, 1, -1);
        transvectant("x, y", 1, 1, 1, 5, 5, -1);
        transvectant("xy, xx and yy", 2, 5, 2, 26, 5 + 125, 53, -1);
        transvectant("2 xx and yy, xy", 2, 27, 2, 5, 10 + 125, 79, -1);
        transvectant("xxx, yyy", 3, 1, 3, 125, -1, 100, 5, -1);
        transvectant("yyy, xxx", 3, 125, 3, 1, -1, 25, 5, -1);
        transvectant("xxy, xy", 3, 5, 2, 5, -1, 5, 1);
        transvectant("xxy, y", 3, 5, 1, 5, 25, 10);
        transvectant("y, xxy", 1, 5, 3, 5, 25, 15);
        transvectant("xxxx, y", 4, 1, 1, 5, -1, 4);
        transvectant("xxxx, yy", 4, 1, 2, 25, -1, 15, 4);
        transvectant("xxxx, yyy", 4, 1, 3, 125, -1, -1, 10, 4);
        transvectant("xxxx, yyyy", 4, 1, 4, 625, -1, -1, 100, 5, -1);
        transvectant("yyyy, xxxx", 4, 625, 4, 1, -1, -1, 100, 20, -1);
        transvectant("zero form", 2, 0, 2, 5, 0, 0, -1);
        FormForge x = new FormForge();
        x.form(1, 1);
        for (int form : new int[] {LEAST, -1, 1, MOST}) {
            Due.is("transvectant of form " + form, Due.INDEX, () -> x.transvectant(form, 0, 0));
            Due.is("transvectant with form " + form, Due.INDEX, () -> x.transvectant(0, form, 0));
            Due.is("transvectant with form and k wrong", Due.INDEX, () -> x.transvectant(0, form, -1));
        }
        Due.is("transvectant with itself", 1, () -> x.transvectant(0, 0, 0));
    }

    private static void value(int degree, int code, int... want) {
        FormForge x = new FormForge();
        x.form(degree, code);
        String name = "value of " + degree + ", " + code;
        for (int which = 0; which < want.length; which++) {
            int w = which;
            Due.is(name + ", " + w, want[w], () -> x.value(0, w));
        }
        for (int which : new int[] {LEAST, -1, want.length, MOST}) {
            Due.is(name + ", " + which, Due.RANGE, () -> x.value(0, which));
            Due.is(name + " wrong form", Due.INDEX, () -> x.value(1, which));
        }
        Due.is(name + " form -1", Due.INDEX, () -> x.value(-1, 0));
    }

    private static void values() {
        value(1, 1);
        value(1, 24);
        value(2, 5, 1);
        value(2, 27, 2);
        value(2, 31, 2);
        value(3, 30, 1);
        value(3, 126, 3);
        value(3, 156, 4);
        value(3, 130, 1);
        value(3, 26, 1);
        value(3, 27, 2);
        value(3, 51, 3);
        value(4, 626, 2, 0);
        value(4, 130, 2, 0);
        value(4, 25, 1, 3);
        value(4, 651, 3, 0);
        value(4, 155, 3, 2);
        value(4, 126, 0, 3);
        value(4, 630, 0, 3);
        FormForge x = new FormForge();
        x.prime(2);
        x.form(2, 7);
        Due.is("value of 2", 1, () -> x.value(0, 0));
        x.prime(3);
        x.form(4, 9);
        Due.is("value 0 of 3", 1, () -> x.value(0, 0));
        Due.is("value 1 of 3", 1, () -> x.value(0, 1));
    }

    private static void weighs() {
        for (int p : new int[] {2, 3, 5}) {
            FormForge x = new FormForge();
            x.prime(p);
            x.generator(p - 1, 0, 0, 1);
            x.generator(1, p - 1, 1, 0);
            x.generator(p / 2, 1, 1, 0);
            x.generator(1, 1, 0, p == 5 ? 3 : 1);
            for (int form = 0; form < 20; form++) {
                x.form(1 + form % 4, (form * 7 + 1) % (p == 2 ? 4 : 9));
                Due.is("weighs", 1, () -> x.weighs() ? 1 : 0);
            }
        }
    }

    private static void way(String name, FormForge x, int form, int other, int... want) {
        Due.is(name + " way", want.length, () -> x.way(form, other));
        for (int step = 0; step < want.length; step++) {
            int s = step;
            Due.is(name + " step " + s, want[s], () -> x.step(form, other, s));
        }
        Due.is(name + " step behind", -1, () -> x.step(form, other, want.length));
        Due.is(name + " step far behind", -1, () -> x.step(form, other, MOST));
    }

    private static void ways() {
        FormForge x = new FormForge();
        x.form(1, 1);
        x.form(1, 7);
        x.form(1, 6);
        x.form(1, 1);
        x.form(1, 0);
        x.form(2, 1);
        way("the same form", x, 0, 0);
        way("the same code", x, 0, 3);
        Due.is("no way without generators", -1, () -> x.way(0, 1));
        Due.is("no step without generators", -1, () -> x.step(0, 1, 0));
        x.generator(0, 1, 1, 0);
        x.generator(1, 1, 0, 1);
        x.generator(1, 1, 0, 1);
        way("x to 2 x and y", x, 0, 1, 1, 1, 0);
        way("x and y to x, never back", x, 2, 0, 1, 1, 1, 1);
        way("the same code by a way", x, 0, 3);
        Due.is("no way to the zero form", -1, () -> x.way(0, 4));
        Due.is("no step to the zero form", -1, () -> x.step(0, 4, 0));
        wrongWays(x);
        FormForge y = new FormForge();
        y.generator(1, 0, 0, 2);
        y.generator(2, 0, 0, 1);
        y.form(1, 6);
        y.form(1, 12);
        y.form(1, 2 + 4 * 5);
        way("the lowest generator first", y, 0, 1, 0, 1);
        way("the lowest generators first", y, 0, 2, 0, 0, 1);
    }

    private static void wrongWays(FormForge x) {
        Due.is("way of degrees unlike", Due.RANGE, () -> x.way(0, 5));
        Due.is("step of degrees unlike", Due.RANGE, () -> x.step(5, 0, 0));
        Due.is("step -1", Due.RANGE, () -> x.step(0, 1, -1));
        Due.is("step least", Due.RANGE, () -> x.step(0, 0, LEAST));
        for (int form : new int[] {LEAST, -1, 6, MOST}) {
            Due.is("way from form " + form, Due.INDEX, () -> x.way(form, 0));
            Due.is("way to form " + form, Due.INDEX, () -> x.way(5, form));
            Due.is("step from form " + form, Due.INDEX, () -> x.step(form, 0, -1));
            Due.is("step to form " + form, Due.INDEX, () -> x.step(5, form, -1));
        }
    }

    private static void orbits(String name, FormForge x, int... want) {
        for (int degree = 1; degree <= 4; degree++) {
            int n = degree;
            Due.is(name + " orbits " + n, want[n - 1], () -> x.orbits(n));
            Due.is(name + " orbitsAnew " + n, want[n - 1], () -> x.orbitsAnew(n));
            Due.is(name + " orbitsAnew again " + n, want[n - 1], () -> x.orbitsAnew(n));
        }
        for (int degree : new int[] {LEAST, -1, 0, 5, MOST}) {
            Due.is(name + " orbits " + degree, Due.RANGE, () -> x.orbits(degree));
            Due.is(name + " orbitsAnew " + degree, Due.RANGE, () -> x.orbitsAnew(degree));
        }
    }

    private static void orbits() {
        FormForge x = new FormForge();
        orbits("nothing", x, 25, 125, 625, 3125);
        x.generator(0, 1, 1, 0);
        orbits("swap", x, 15, 75, 325, 1625);
        x.generator(2, 0, 0, 1);
        Due.is("swap and double", 3, () -> x.orbits(1));
        Due.is("swap and double anew", 3, () -> x.orbitsAnew(1));
        Due.is("a wrong generator", Due.RANGE, () -> x.generator(1, 1, 1, 1));
        Due.is("orbits as before", 3, () -> x.orbitsAnew(1));
        Due.is("the same prime", 5, () -> x.prime(5));
        orbits("nothing again", x, 25, 125, 625, 3125);
        x.prime(2);
        orbits("nothing of 2", x, 4, 8, 16, 32);
        x.generator(0, 1, 1, 0);
        x.generator(1, 1, 0, 1);
        orbits("all of 2", x, 2, 4, 6, 10);
        x.prime(3);
        x.generator(1, 1, 0, 1);
        orbits("shear of 3", x, 5, 11, 33, 87);
    }

    public static void main(String[] args) {
        newObject();
        prime();
        form();
        formIs();
        at();
        multiplicity();
        generator();
        order();
        changed();
        average();
        dimension();
        transvectants();
        values();
        weighs();
        ways();
        orbits();
        Due.close("PromisesTest");
    }
}
