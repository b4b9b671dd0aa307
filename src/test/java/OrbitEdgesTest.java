/** The sentences on orbits that name a boundary, in the terms and the promises 4 and 16 to 19: a test of each. */
public final class OrbitEdgesTest {
    private static FormForge linear(int prime, int... codes) {
        FormForge x = Made.of(prime);
        for (int code : codes) x.form(1, code);
        return x;
    }

    private static void way(String name, FormForge x, int form, int other, int... due) {
        Due.is(name + ": way", due.length, () -> x.way(form, other));
        for (int step = 0; step < due.length; step++) {
            int s = step;
            Due.is(name + ": step " + s, due[s], () -> x.step(form, other, s));
        }
        Due.is(name + ": the step behind", FormForge.NONE, () -> x.step(form, other, due.length));
    }

    private static void noWay(String name, FormForge x, int form, int other) {
        Due.is(name + ": way", FormForge.NONE, () -> x.way(form, other));
        Due.is(name + ": step 0", FormForge.NONE, () -> x.step(form, other, 0));
        Due.is(name + ": a far step", FormForge.NONE, () -> x.step(form, other, Integer.MAX_VALUE));
    }

    private static void orbit(String name, FormForge x, int form, int many, int least) {
        Due.is(name + ": how many", many, () -> x.formIs(form, 5));
        Due.is(name + ": the least code", least, () -> x.formIs(form, 6));
    }

    // ---- terms

    private static void withItself() {
        FormForge x = linear(5, 7, 0);
        orbit("no generators", x, 0, 1, 7);
        x.generator(1, 0, 0, 1);
        orbit("what changes nothing", x, 0, 1, 7);
        x.generator(0, 1, 1, 0);
        orbit("itself the least one", x, 0, 2, 7);
        x.generator(1, 1, 0, 1);
        orbit("the zero form", x, 1, 1, 0);
        orbit("all but the zero form", x, 0, 24, 1);
        FormForge cubic = Made.withAllMatrices(5);
        // A root and a part of degree 2 without one: the largest orbit of all; 2 xxx and xyy has the least code.
        Made.tell(cubic, 5, 3, 0, 2, 0, 1);
        Made.tell(cubic, 5, 3, 0, 0, 0, 4);
        orbit("240 forms", cubic, 0, 240, Made.code(5, 2, 0, 1, 0));
        orbit("24 forms", cubic, 1, 24, 1);
    }

    private static void neverBack() {
        FormForge x = linear(5, 1, 6);
        x.generator(1, 1, 0, 1);
        way("there", x, 0, 1, 0);
        way("around instead of back", x, 1, 0, 0, 0, 0, 0);
        FormForge y = linear(3, 1, 4);
        y.generator(1, 1, 0, 1);
        way("around, of 3", y, 1, 0, 0, 0);
        FormForge z = linear(2, 1, 3);
        z.generator(1, 1, 0, 1);
        way("of 2 it is the same step", z, 1, 0, 0);
    }

    private static void asFewAsCanBe() {
        FormForge x = linear(5, 1, 11, 16, 21);
        x.generator(1, 1, 0, 1);
        way("twice the only one", x, 0, 1, 0, 0);
        x.generator(1, 2, 0, 1);
        way("once the later one", x, 0, 1, 1);
        way("one of each, the lower one first", x, 0, 2, 0, 1);
        way("twice the later one", x, 0, 3, 1, 1);
        x.generator(1, 4, 0, 1);
        way("once the last one", x, 0, 3, 2);
        FormForge longest = linear(5, 1, 12);
        longest.generator(0, 1, 3, 4);
        way("back by one", longest, 1, 0, 0);
        way("23 steps", longest, 0, 1, new int[23]);
    }

    private static void lowestFirst() {
        FormForge x = linear(5, 6, 12, 2 + 4 * 5);
        x.generator(1, 0, 0, 2);
        x.generator(2, 0, 0, 1);
        way("two rows", x, 0, 1, 0, 1);
        way("three rows", x, 0, 2, 0, 0, 1);
        FormForge same = linear(5, 1, 5);
        for (int number = 0; number < 4; number++) same.generator(0, 1, 1, 0);
        way("four alike", same, 0, 1, 0);
        FormForge late = linear(5, 1, 5);
        for (int number = 0; number < 3; number++) late.generator(1, 0, 0, 1);
        late.generator(0, 1, 1, 0);
        way("only the last one goes on", late, 0, 1, 3);
    }

    private static void noSuchThing() {
        FormForge x = linear(5, 1);
        x.generator(1, 0, 0, 1);
        Due.is("no such form", Due.INDEX, () -> x.formIs(1, 0));
        Due.is("no such generator", Due.INDEX, () -> x.changed(0, 1));
        Due.is("no such point", Due.INDEX, () -> x.multiplicity(0, 6));
        Due.is("another argument", Due.RANGE, () -> x.formIs(0, 7));
        Due.is("a degree", Due.RANGE, () -> x.orbits(5));
    }

    private static void none() {
        Due.is("NONE", -1, () -> FormForge.NONE);
        FormForge x = linear(5, 1, 0);
        Due.is("no way", -1, () -> x.way(0, 1));
        Due.is("no step", -1, () -> x.step(0, 1, 0));
        x.generator(1, 1, 0, 1);
        Due.is("no average", -1, () -> x.average(0));
    }

    // ---- promises 4 and 16 to 19

    private static void smallestAndLargestOrbit() {
        FormForge x = Made.of(5);
        x.generator(4, 0, 0, 1);
        for (int degree = 1; degree <= 4; degree++) {
            int zero = x.form(degree, 0);
            int largest = x.form(degree, Made.power(5, degree + 1) - 1);
            int n = degree;
            Due.is("the zero form of degree " + n, 1, () -> x.formIs(zero, 5));
            Due.is("the largest code of degree " + n, 2, () -> x.formIs(largest, 5));
            Due.is("no way to it", FormForge.NONE, () -> x.way(zero, largest));
        }
        FormForge one = linear(5, 24);
        Due.is("each form of order 1 alone", 1, () -> one.formIs(0, 5));
        one.generator(0, 1, 3, 4);
        Due.is("as many as the order", one.order(), () -> one.formIs(0, 5));
    }

    private static void leastOfOrbit() {
        FormForge x = linear(5, 24, 0, 7, 11);
        Due.is("the only one, the largest", 24, () -> x.formIs(0, 6));
        x.generator(0, 1, 1, 0);
        Due.is("that stays", 24, () -> x.formIs(0, 6));
        Due.is("the zero form", 0, () -> x.formIs(1, 6));
        Due.is("itself", 7, () -> x.formIs(2, 6));
        Due.is("the other one", 7, () -> x.formIs(3, 6));
        x.generator(4, 0, 0, 4);
        Due.is("less itself", 6, () -> x.formIs(0, 6));
        x.generator(0, 1, 3, 4);
        Due.is("the least of all but the zero form", 1, () -> x.formIs(0, 6));
    }

    private static void sameCode() {
        for (int p : Made.PRIMES) {
            FormForge x = linear(p, 1, 1, 0, 0);
            way(p + ": the same form", x, 0, 0);
            way(p + ": the same code", x, 0, 1);
            way(p + ": both the zero form", x, 2, 3);
            x.generator(0, 1, 1, 0);
            way(p + ": the same code, and back again in two", x, 1, 0);
            way(p + ": the zero form, that each generator leaves", x, 3, 2);
        }
    }

    private static void unreached() {
        for (int p : Made.PRIMES) {
            FormForge x = linear(p, 1, p, 0);
            noWay(p + ": no generators", x, 0, 1);
            x.generator(1, 0, 0, 1);
            noWay(p + ": what changes nothing", x, 0, 1);
            x.generator(1, 1, 0, 1);
            noWay(p + ": another orbit", x, 0, 1);
            x.generator(0, 1, 1, 0);
            way(p + ": now there is one", x, 0, 1, 2);
            noWay(p + ": to the zero form", x, 0, 2);
            noWay(p + ": from the zero form", x, 2, 0);
        }
    }

    private static FormForge unlike() {
        FormForge x = linear(5, 1, 6);
        x.form(2, 1);
        x.form(4, 0);
        x.form(1, 0);
        x.generator(1, 1, 0, 1);
        return x;
    }

    private static void wayOfNoForm() {
        FormForge x = unlike();
        int[] none = {-1, 5, 20, Made.FAR[0], Made.FAR[5]};
        for (int form : none) {
            Due.is("from " + form, Due.INDEX, () -> x.way(form, 0));
            Due.is("to " + form, Due.INDEX, () -> x.way(0, form));
            Due.is("from and to " + form, Due.INDEX, () -> x.way(form, form));
        }
        Due.is("the last form", 0, () -> x.way(4, 4));
        Due.is("no form at all", Due.INDEX, () -> new FormForge().way(0, 0));
    }

    private static void wayOfDegreesUnlike() {
        FormForge x = unlike();
        Due.is("1 and 2 of the same code", Due.RANGE, () -> x.way(0, 2));
        Due.is("2 and 1 of the same code", Due.RANGE, () -> x.way(2, 0));
        Due.is("zero forms of 4 and 1", Due.RANGE, () -> x.way(3, 4));
        Due.is("both of 1", 1, () -> x.way(0, 1));
    }

    private static void firstStep() {
        FormForge x = unlike();
        Due.is("the first one", 0, () -> x.step(0, 1, 0));
        Due.is("the first one of four", 0, () -> x.step(1, 0, 0));
        Due.is("the last one of four", 0, () -> x.step(1, 0, 3));
    }

    private static void notSoMany() {
        FormForge x = unlike();
        for (int step : new int[] {1, 2, 1 << 16, 1 << 30, Integer.MAX_VALUE}) {
            Due.is("step " + step + " of one", FormForge.NONE, () -> x.step(0, 1, step));
            Due.is("step " + step + " of none", FormForge.NONE, () -> x.step(0, 0, step));
            Due.is("step " + step + " without a way", FormForge.NONE, () -> x.step(0, 4, step));
        }
        Due.is("step 0 of none", FormForge.NONE, () -> x.step(0, 0, 0));
        Due.is("step 0 without a way", FormForge.NONE, () -> x.step(0, 4, 0));
        Due.is("step 4 of four", FormForge.NONE, () -> x.step(1, 0, 4));
    }

    private static void stepOfNoForm() {
        FormForge x = unlike();
        for (int form : new int[] {-1, 5, 20, Made.FAR[0], Made.FAR[5]}) {
            Due.is("from " + form, Due.INDEX, () -> x.step(form, 0, 0));
            Due.is("to " + form, Due.INDEX, () -> x.step(0, form, 0));
            Due.is("to " + form + ", step -1", Due.INDEX, () -> x.step(0, form, -1));
            Due.is("from " + form + ", step -1", Due.INDEX, () -> x.step(form, 2, -1));
        }
        Due.is("no form at all", Due.INDEX, () -> new FormForge().step(0, 0, 0));
    }

    private static void stepBelowZero() {
        FormForge x = unlike();
        Due.is("1 and 2 of the same code", Due.RANGE, () -> x.step(0, 2, 0));
        Due.is("zero forms of 4 and 1", Due.RANGE, () -> x.step(3, 4, 0));
        for (int step : new int[] {-1, -2, Integer.MIN_VALUE}) {
            Due.is("step " + step + " of one", Due.RANGE, () -> x.step(0, 1, step));
            Due.is("step " + step + " of none", Due.RANGE, () -> x.step(0, 0, step));
            Due.is("step " + step + " without a way", Due.RANGE, () -> x.step(0, 4, step));
            Due.is("step " + step + " of degrees unlike", Due.RANGE, () -> x.step(0, 2, step));
        }
    }

    private static void count(String name, Made.OfDegree orbits, FormForge x, int... due) {
        for (int degree = 1; degree <= due.length; degree++) {
            int n = degree;
            Due.is(name + ": " + n, due[n - 1], () -> orbits.ask(x, n));
        }
    }

    private static FormForge lessOne(int prime) {
        FormForge x = Made.of(prime);
        x.generator(prime - 1, 0, 0, prime - 1);
        return x;
    }

    private static void countFewestAndMost(Made.OfDegree orbits) {
        count("each alone", orbits, Made.of(2), 4, 8, 16, 32);
        count("each alone of 3", orbits, Made.of(3), 9, 27, 81, 243);
        count("each alone of 5", orbits, Made.of(5), 25, 125, 625, 3125);
        count("less 1 of 3", orbits, lessOne(3), 5, 27, 41, 243);
        count("less 1 of 5", orbits, lessOne(5), 13, 125, 313, 3125);
        count("all of 2", orbits, Made.withAllMatrices(2), 2, 4, 6, 10);
        count("all of 3", orbits, Made.withAllMatrices(3), 2, 5, 6);
        count("all of 5", orbits, Made.withAllMatrices(5), 2, 5, 6);
        FormForge x = Made.of(5);
        count("before a generator", orbits, x, 25);
        x.generator(0, 1, 1, 0);
        count("behind a generator", orbits, x, 15);
        x.generator(4, 0, 0, 4);
        count("behind another one", orbits, x, 9);
    }

    private static void countOfDegrees(Made.OfDegree orbits) {
        for (int p : Made.PRIMES) {
            FormForge x = Made.of(p);
            Due.is(p + ": degree 0", Due.RANGE, () -> orbits.ask(x, 0));
            Due.is(p + ": degree 1", Made.power(p, 2), () -> orbits.ask(x, 1));
            Due.is(p + ": degree 4", Made.power(p, 5), () -> orbits.ask(x, 4));
            Due.is(p + ": degree 5", Due.RANGE, () -> orbits.ask(x, 5));
            for (int degree : Made.FAR) Due.is(p + ": degree " + degree, Due.RANGE, () -> orbits.ask(x, degree));
        }
    }

    private static void terms() {
        Due.sentence("Terms: The orbit of a form is all forms into which the group changes it, with itself.",
            OrbitEdgesTest::withItself);
        Due.sentence("Terms: A step changes a form by one generator as it is, never back.", OrbitEdgesTest::neverBack);
        Due.sentence("Terms: is a row of steps as few as can be", OrbitEdgesTest::asFewAsCanBe);
        Due.sentence("Terms: of several the one whose first generator is the lowest, then the second one, and so on",
            OrbitEdgesTest::lowestFirst);
        Due.sentence("Terms: IndexOutOfBoundsException: there is no such form, generator or point.",
            OrbitEdgesTest::noSuchThing);
        Due.sentence("Terms: NONE = -1: There is none.", OrbitEdgesTest::none);
    }

    private static void promises() {
        Due.sentence("Promise 4: 5 how many forms its orbit has", OrbitEdgesTest::smallestAndLargestOrbit);
        Due.sentence("Promise 4: 6 the least code in its orbit", OrbitEdgesTest::leastOfOrbit);
        Due.sentence("Promise 16: Returns 0 if both have the same code", OrbitEdgesTest::sameCode);
        Due.sentence("Promise 16: NONE if there is no way", OrbitEdgesTest::unreached);
        Due.sentence("Promise 16: Throws IndexOutOfBoundsException as told, of both", OrbitEdgesTest::wayOfNoForm);
        Due.sentence("Promise 16: Throws IllegalArgumentException if their degrees are unlike",
            OrbitEdgesTest::wayOfDegreesUnlike);
        Due.sentence("Promise 17: step: 0 for the first one", OrbitEdgesTest::firstStep);
        Due.sentence("Promise 17: Returns NONE if it has not so many, or there is none.", OrbitEdgesTest::notSoMany);
        Due.sentence("Promise 17: Throws IndexOutOfBoundsException as told, of both", OrbitEdgesTest::stepOfNoForm);
        Due.sentence("Promise 17: Throws IllegalArgumentException if their degrees are unlike, or step is below 0",
            OrbitEdgesTest::stepBelowZero);
        Due.sentence("Promise 18: the zero form with them", () -> countFewestAndMost(FormForge::orbits));
        Due.sentence("Promise 18: degree: 1 to 4", () -> countOfDegrees(FormForge::orbits));
        Due.sentence("Promise 19: their sum, divided by the order", () -> countFewestAndMost(FormForge::orbitsAnew));
        Due.sentence("Promise 19: Throws IllegalArgumentException as told",
            () -> countOfDegrees(FormForge::orbitsAnew));
    }

    public static void main(String[] args) {
        terms();
        promises();
        Due.close("OrbitEdgesTest");
    }
}
