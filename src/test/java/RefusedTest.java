import java.util.ArrayList;
import java.util.List;

/** Calls that throw: nothing has changed, of several exceptions it is the first one; and the last of 512 calls. */
public final class RefusedTest {
    interface Ask {
        long of(FormForge x);
    }

    /** A call that is refused, and what it is to throw. */
    private static final class Refusal {
        final String call;
        final String name;
        final String due;
        final Ask ask;

        Refusal(String call, String name, String due, Ask ask) {
            this.call = call;
            this.name = name;
            this.due = due;
            this.ask = ask;
        }
    }

    private static final String[] STATES = {"new 5", "some 2", "some 3", "some 5", "full 2", "full 3", "full 5"};

    private static List<Refusal> refusals;

    /** The name begins with the call's. */
    private static void refuse(String name, String due, Ask ask) {
        refusals.add(new Refusal(name.substring(0, name.indexOf(' ')), name, due, ask));
    }

    // ---- states: each is made anew as often as it is asked for

    private static int primeOf(String state) {
        return state.charAt(state.length() - 1) - '0';
    }

    private static FormForge made(String state) {
        int p = primeOf(state);
        if (state.startsWith("new")) return new FormForge();
        if (state.startsWith("full")) return Made.full(p);
        FormForge x = Made.of(p);
        x.generator(0, 1, 1, 0);
        x.generator(p - 1, 1, 0, 1);
        for (int degree = 1; degree <= 4; degree++) x.form(degree, degree + 1);
        x.form(1, p);
        return x;
    }

    private static int formsOf(String state) {
        return state.startsWith("new") ? 0 : state.startsWith("full") ? 20 : 5;
    }

    private static int generatorsOf(String state) {
        return state.startsWith("new") ? 0 : state.startsWith("full") ? 4 : 2;
    }

    // ---- what is refused in a state

    private static void refuseTold(int p, int forms, int generators) {
        for (int prime : new int[] {-5, 0, 1, 4, 6, 7, 25, Made.FAR[0], Made.FAR[5]}) {
            refuse("prime " + prime, Due.RANGE, x -> x.prime(prime));
        }
        for (int degree : new int[] {-1, 0, 5, Made.FAR[0], Made.FAR[5]}) {
            refuse("form of degree " + degree, Due.RANGE, x -> x.form(degree, 1));
        }
        for (int degree = 1; degree <= 4; degree++) {
            int n = degree;
            int end = Made.power(p, degree + 1);
            refuse("form of degree " + n + ", code -1", Due.RANGE, x -> x.form(n, -1));
            refuse("form of degree " + n + ", code " + end, Due.RANGE, x -> x.form(n, end));
        }
        for (int number : new int[] {-1, p}) {
            refuse("generator a " + number, Due.RANGE, x -> x.generator(number, 0, 0, 1));
            refuse("generator b " + number, Due.RANGE, x -> x.generator(1, number, 0, 1));
            refuse("generator c " + number, Due.RANGE, x -> x.generator(1, 0, number, 1));
            refuse("generator d " + number, Due.RANGE, x -> x.generator(1, 0, 0, number));
        }
        refuse("generator of 0", Due.RANGE, x -> x.generator(0, 0, 0, 0));
        refuse("generator of 1", Due.RANGE, x -> x.generator(1, 1, 1, 1));
        if (forms == 20) refuse("form of 21", Due.STATE, x -> x.form(1, 1));
        if (generators == 4) refuse("generator of 5", Due.STATE, x -> x.generator(1, 1, 0, 1));
    }

    private static void refuseNoForm(int form) {
        String name = " of form " + form;
        refuse("formIs" + name, Due.INDEX, x -> x.formIs(form, 5));
        refuse("at" + name, Due.INDEX, x -> x.at(form, 1, 1));
        refuse("multiplicity" + name, Due.INDEX, x -> x.multiplicity(form, 0));
        refuse("changed" + name, Due.INDEX, x -> x.changed(form, 0));
        refuse("average" + name, Due.INDEX, x -> x.average(form));
        refuse("transvectant" + name, Due.INDEX, x -> x.transvectant(form, 0, 0));
        refuse("transvectant with" + name, Due.INDEX, x -> x.transvectant(0, form, 0));
        refuse("value" + name, Due.INDEX, x -> x.value(form, 0));
        refuse("way" + name, Due.INDEX, x -> x.way(form, 0));
        refuse("way to" + name, Due.INDEX, x -> x.way(0, form));
        refuse("step" + name, Due.INDEX, x -> x.step(form, 0, 0));
        refuse("step to" + name, Due.INDEX, x -> x.step(0, form, 0));
    }

    /** Form 0 is of degree 1, the last one of another degree or the same. */
    private static void refuseOfForms(int p, int generators, int ofDegreeTwo) {
        refuse("formIs -1", Due.RANGE, x -> x.formIs(0, -1));
        refuse("formIs 7", Due.RANGE, x -> x.formIs(0, 7));
        refuse("at x -1", Due.RANGE, x -> x.at(0, -1, 0));
        refuse("at x p", Due.RANGE, x -> x.at(0, p, 0));
        refuse("at y -1", Due.RANGE, x -> x.at(0, 0, -1));
        refuse("at y p", Due.RANGE, x -> x.at(0, 0, p));
        refuse("multiplicity at -1", Due.INDEX, x -> x.multiplicity(0, -1));
        refuse("multiplicity at p and 1", Due.INDEX, x -> x.multiplicity(0, p + 1));
        refuse("changed by -1", Due.INDEX, x -> x.changed(0, -1));
        refuse("changed by the one behind", Due.INDEX, x -> x.changed(0, generators));
        refuse("transvectant -1", Due.RANGE, x -> x.transvectant(0, ofDegreeTwo, -1));
        refuse("transvectant 2", Due.RANGE, x -> x.transvectant(0, ofDegreeTwo, 2));
        refuse("transvectant of degree 0", Due.RANGE, x -> x.transvectant(0, 0, 1));
        refuse("value of degree 1", Due.RANGE, x -> x.value(0, 0));
        refuse("value -1", Due.RANGE, x -> x.value(ofDegreeTwo, -1));
        refuse("value 1 of degree 2", Due.RANGE, x -> x.value(ofDegreeTwo, 1));
        refuse("way of degrees unlike", Due.RANGE, x -> x.way(0, ofDegreeTwo));
        refuse("step of degrees unlike", Due.RANGE, x -> x.step(ofDegreeTwo, 0, 0));
        refuse("step -1", Due.RANGE, x -> x.step(0, 0, -1));
    }

    private static void collect(String state) {
        int p = primeOf(state);
        refusals = new ArrayList<>();
        int forms = formsOf(state);
        refuseTold(p, forms, generatorsOf(state));
        for (int form : new int[] {-1, forms, Made.FAR[0], Made.FAR[5]}) refuseNoForm(form);
        if (forms > 0) refuseOfForms(p, generatorsOf(state), forms == 20 ? 5 : 1);
        for (int degree : new int[] {0, 5}) {
            refuse("dimension " + degree, Due.RANGE, x -> x.dimension(degree));
            refuse("dimensionAnew " + degree, Due.RANGE, x -> x.dimensionAnew(degree));
            refuse("orbits " + degree, Due.RANGE, x -> x.orbits(degree));
            refuse("orbitsAnew " + degree, Due.RANGE, x -> x.orbitsAnew(degree));
        }
    }

    // ---- all that an object answers, without what its room leaves for 512 calls

    private static void put(StringBuilder all, FormForge x, String name, Ask ask) {
        all.append(name).append(' ').append(Due.said(() -> ask.of(x))).append(';');
    }

    private static void putForm(StringBuilder all, FormForge x, int form) {
        for (int what : new int[] {0, 1, 4, 5, 6}) put(all, x, form + " is " + what, y -> y.formIs(form, what));
        put(all, x, form + " average", y -> y.average(form));
        put(all, x, form + " way", y -> y.way(form, form + 1));
        for (int generator = 0; generator <= 4; generator++) {
            int g = generator;
            put(all, x, form + " changed " + g, y -> y.changed(form, g));
        }
    }

    private static String answers(FormForge x, int p) {
        StringBuilder all = new StringBuilder();
        put(all, x, "order", FormForge::order);
        put(all, x, "weighs", y -> y.weighs() ? 1 : 0);
        for (int form = 0; form <= 20; form++) putForm(all, x, form);
        for (int degree = 1; degree <= 3; degree++) {
            int n = degree;
            put(all, x, "dimension " + n, y -> y.dimension(n));
            put(all, x, "orbits " + n, y -> y.orbits(n));
            put(all, x, "orbitsAnew " + n, y -> y.orbitsAnew(n));
        }
        put(all, x, "next form", y -> y.form(1, p * p - 1));
        put(all, x, "next generator", y -> y.generator(p - 1, 0, 0, 1));
        put(all, x, "order behind it", FormForge::order);
        put(all, x, "prime", y -> y.prime(p == 2 ? 3 : 2));
        return all.toString();
    }

    /** Each refusal of the call, alone on an object of each state. */
    private static void refusedAlone(String call, String due) {
        for (String state : STATES) {
            collect(state);
            String want = answers(made(state), primeOf(state));
            for (Refusal refusal : refusals) {
                if (!refusal.call.equals(call) || !refusal.due.equals(due)) continue;
                FormForge x = made(state);
                Due.is(state + ": " + refusal.name, due, () -> refusal.ask.of(x));
                Due.same(state + ", behind " + refusal.name, want, answers(x, primeOf(state)));
            }
        }
    }

    /** All refusals on one object of each state. */
    private static void refusedInARow() {
        for (String state : STATES) {
            collect(state);
            FormForge x = made(state);
            for (Refusal refusal : refusals) {
                Due.is(state + ": " + refusal.name + " behind others", refusal.due, () -> refusal.ask.of(x));
            }
            Due.same(state + ", behind all", answers(made(state), primeOf(state)), answers(x, primeOf(state)));
        }
    }

    private static void refused(int promise, String call, String due, String words) {
        String name = due.substring(due.indexOf('.') + 1);
        Due.sentence("Promise " + promise + ": Throws " + name + " " + words, () -> refusedAlone(call, due));
    }

    private static void eachThrowsClause() {
        refused(2, "prime", Due.RANGE, "as told");
        refused(3, "form", Due.RANGE, "as told");
        refused(3, "form", Due.STATE, "if there are 20");
        refused(4, "formIs", Due.INDEX, "as told");
        refused(4, "formIs", Due.RANGE, "as told");
        refused(5, "at", Due.INDEX, "as told");
        refused(5, "at", Due.RANGE, "as told");
        refused(6, "multiplicity", Due.INDEX, "as told, of the form and point");
        refused(7, "generator", Due.RANGE, "as told; its determinant is 0");
        refused(7, "generator", Due.STATE, "if there are 4");
        refused(9, "changed", Due.INDEX, "as told, of the form and generator");
        refused(10, "average", Due.INDEX, "as told");
        refused(11, "dimension", Due.RANGE, "as told");
        refused(12, "dimensionAnew", Due.RANGE, "as told");
        refused(13, "transvectant", Due.INDEX, "as told, of both forms");
        refused(13, "transvectant", Due.RANGE, "as told");
        refused(14, "value", Due.INDEX, "as told");
        refused(14, "value", Due.RANGE, "if they have it not");
        refused(16, "way", Due.INDEX, "as told, of both");
        refused(16, "way", Due.RANGE, "if their degrees are unlike");
        refused(17, "step", Due.INDEX, "as told, of both");
        refused(17, "step", Due.RANGE, "if their degrees are unlike, or step is below 0");
        refused(18, "orbits", Due.RANGE, "as told");
        refused(19, "orbitsAnew", Due.RANGE, "as told");
    }

    // ---- several exceptions at once

    private static void firstOfForm() {
        FormForge x = Made.full(3);
        Due.is("form: code before room", Due.RANGE, () -> x.form(1, 9));
        Due.is("form: degree before room", Due.RANGE, () -> x.form(0, 0));
        Due.is("form: room alone", Due.STATE, () -> x.form(1, 8));
        Due.is("generator: numbers before room", Due.RANGE, () -> x.generator(3, 0, 0, 1));
        Due.is("generator: determinant before room", Due.RANGE, () -> x.generator(1, 2, 2, 1));
        Due.is("generator: room alone", Due.STATE, () -> x.generator(1, 2, 2, 2));
    }

    private static void firstOfTheClause() {
        firstOfForm();
        FormForge x = made("some 5");
        Due.is("formIs: form before what", Due.INDEX, () -> x.formIs(5, 7));
        Due.is("formIs: what alone", Due.RANGE, () -> x.formIs(4, 7));
        Due.is("at: form before x and y", Due.INDEX, () -> x.at(-1, 5, -1));
        Due.is("at: x and y alone", Due.RANGE, () -> x.at(4, 5, -1));
        Due.is("transvectant: form before k", Due.INDEX, () -> x.transvectant(5, 0, -1));
        Due.is("transvectant: other before k", Due.INDEX, () -> x.transvectant(0, 5, 9));
        Due.is("transvectant: k alone", Due.RANGE, () -> x.transvectant(0, 4, 9));
        Due.is("value: form before which", Due.INDEX, () -> x.value(5, 2));
        Due.is("value: which alone", Due.RANGE, () -> x.value(3, 2));
        Due.is("way: other before degrees", Due.INDEX, () -> x.way(1, 5));
        Due.is("way: degrees alone", Due.RANGE, () -> x.way(1, 4));
        Due.is("step: other before step", Due.INDEX, () -> x.step(0, 5, -1));
        Due.is("step: form before step", Due.INDEX, () -> x.step(-1, 0, -1));
        Due.is("step: degrees and step", Due.RANGE, () -> x.step(0, 1, -1));
    }

    // ---- the last of 512 calls

    private static List<Ask> questions() {
        List<Ask> all = new ArrayList<>();
        for (int form = 0; form < 20; form += 3) {
            int f = form;
            for (int what = 0; what <= 6; what++) {
                int w = what;
                all.add(x -> x.formIs(f, w));
            }
            all.add(x -> x.at(f, 1, 1));
            all.add(x -> x.multiplicity(f, 1));
            all.add(x -> x.changed(f, f % 4));
            all.add(x -> x.average(f));
            all.add(x -> x.transvectant(f, f, f < 5 ? 0 : f < 15 ? 1 : 2));
            all.add(x -> x.way(f, f + 1));
            all.add(x -> x.step(f, f + 1, 0));
        }
        for (int degree = 1; degree <= 4; degree++) {
            int n = degree;
            all.add(x -> x.dimension(n));
            all.add(x -> x.dimensionAnew(n));
            all.add(x -> x.orbits(n));
            all.add(x -> x.orbitsAnew(n));
        }
        all.add(x -> x.value(18, 1));
        all.add(x -> x.weighs() ? 1 : 0);
        all.add(x -> x.order());
        return all;
    }

    /** Making a full object takes 25 calls; each question is the last one once. */
    private static void lastOfAll() {
        List<Ask> questions = questions();
        for (int p : Made.PRIMES) {
            for (int last = 0; last < questions.size(); last++) {
                Ask ask = questions.get(last);
                FormForge fresh = Made.full(p);
                FormForge used = Made.full(p);
                for (int call = 26; call < 512; call++) {
                    Ask other = questions.get((call * 7 + last) % questions.size());
                    Due.said(() -> other.of(used));
                }
                Due.is(p + ": question " + last, Due.said(() -> ask.of(fresh)), () -> ask.of(used));
            }
            FormForge refused = new FormForge();
            for (int call = 1; call < 512; call++) Due.said(() -> refused.form(5, 0));
            Due.is("a form told last", 0, () -> refused.form(4, 3124));
            FormForge told = new FormForge();
            for (int call = 1; call < 511; call++) told.prime(p);
            told.generator(1, 1, 0, 1);
            Due.is("the order asked for last", p, () -> told.order());
        }
    }

    public static void main(String[] args) {
        eachThrowsClause();
        Due.sentence("Terms: When a call throws, nothing has changed", RefusedTest::refusedInARow);
        Due.sentence("Terms: of several exceptions it is the first one of the throws clause",
            RefusedTest::firstOfTheClause);
        Due.sentence("An object is used for at most 512 calls after it has been made", RefusedTest::lastOfAll);
        Due.close("RefusedTest");
    }
}
