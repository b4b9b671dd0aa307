import java.lang.management.ManagementFactory;

/** What a run makes stays small: a new object, four generators, and nothing by all other calls. */
public final class RoomTest {
    private static final com.sun.management.ThreadMXBean THREADS =
        (com.sun.management.ThreadMXBean) ManagementFactory.getThreadMXBean();

    private static long made() {
        return THREADS.getThreadAllocatedBytes(Thread.currentThread().getId());
    }

    private static long newObject() {
        long before = made();
        FormForge x = new FormForge();
        long bytes = made() - before;
        Due.is("a new object of prime", 5, () -> x.prime(5));
        return bytes;
    }

    private static long otherCalls(FormForge x) {
        long before = made();
        for (int p : new int[] {2, 3, 5}) {
            x.prime(p);
            x.generator(p - 1, 0, 0, 1);
            x.generator(1, 1, 0, 1);
            x.generator(0, 1, 1, 0);
            x.generator(1, 0, 1, 1);
            for (int degree = 1; degree <= 4; degree++) {
                x.form(degree, degree + 1);
                x.form(degree, 1);
                x.orbits(degree);
                x.orbitsAnew(degree);
                x.dimension(degree);
                x.dimensionAnew(degree);
            }
            for (int form = 0; form < 8; form++) {
                for (int what = 0; what <= 6; what++) x.formIs(form, what);
                x.at(form, 1, 1);
                x.multiplicity(form, p);
                x.changed(form, 3);
                x.average(form);
                x.way(form, form ^ 1);
                x.step(form, form ^ 1, 0);
                x.transvectant(form, form, form < 2 ? 0 : form < 6 ? 1 : 2);
            }
            x.value(2, 0);
            x.weighs();
            x.order();
        }
        return made() - before;
    }

    public static void main(String[] args) {
        newObject();
        long bytes = newObject();
        // 14,000 numbers of four bytes: 512 such objects are below 7.3 million elements.
        Due.same("a new object of " + bytes + " bytes is small", "true", "" + (bytes < 14000 * 4));
        FormForge x = new FormForge();
        long generators = otherCalls(x);
        Due.same("generators of " + generators + " bytes are small", "true", "" + (generators < 4 * 4000 * 4 + 20000));
        long rest = otherCalls(x);
        Due.same("other calls make nothing but the test's own row: " + rest + " bytes", "true", "" + (rest < 100));
        Due.close("RoomTest");
    }
}
