import java.util.Arrays;

/** Forms of two letters over a small field: what ../shared/DOC.md promises, and no more. */
public final class FormForge {
    public static final int NONE = -1;

    private static final int FIRST_PRIME = 5;
    private static final int MOST_FORMS = 20;
    private static final int MOST_GENERATORS = 4;
    private static final int MOST_DEGREE = 4;
    private static final int MOST_PLACES = 5;
    // What the prime 5 asks for: 5 to the power 5 forms of degree 4, 5 to the power 4 tables of
    // four numbers, and 24 times 20 of these whose determinant is not 0.
    private static final int MOST_CODES = 3125;
    private static final int MOST_TABLES = 625;
    private static final int MOST_MATRICES = 480;
    // A row for each k, 0 to 3: the 4-th transvectant has the degree 0 or is none, and is refused.
    private static final int WAYS_WIDTH = 4;
    private static final int[] WAYS_TO_CHOOSE = {1, 0, 0, 0, 1, 1, 0, 0, 1, 2, 1, 0, 1, 3, 3, 1};

    private final Field field;
    private final Columns columns;
    private final Equations equations;
    private final Group group;
    private final Walk walk;
    private final int[] degrees;
    private final int[] codes;
    private final int[] first;
    private final int[] second;
    private final int[] sum;
    // By degree what the dearest count found, until a prime or generator is told; 0 as long as it found nothing.
    private final int[] leftForms;
    private int told;

    public FormForge() {
        field = new Field(FIRST_PRIME);
        columns = new Columns(field);
        equations = new Equations(field);
        group = new Group(field);
        walk = new Walk(group);
        degrees = new int[MOST_FORMS];
        codes = new int[MOST_FORMS];
        first = new int[MOST_PLACES];
        second = new int[MOST_PLACES];
        sum = new int[MOST_PLACES];
        leftForms = new int[MOST_DEGREE + 1];
        told = 0;
    }

    // ---- field, forms

    public int prime(int p) throws IllegalArgumentException {
        if (p != 2 && p != 3 && p != 5) {
            throw new IllegalArgumentException("the prime is 2, 3 or 5");
        }
        int before = field.p;
        field.p = p;
        told = 0;
        group.forget();
        Arrays.fill(leftForms, 0);
        return before;
    }

    public int form(int degree, int code) throws IllegalArgumentException, IllegalStateException {
        if (!isDegree(degree) || code < 0 || code >= field.howMany(degree + 1)) {
            throw new IllegalArgumentException("no such degree or code");
        }
        if (told >= MOST_FORMS) {
            throw new IllegalStateException("there are 20 forms");
        }
        write(degrees, told, degree);
        write(codes, told, code);
        told++;
        return told - 1;
    }

    public int formIs(int form, int what) throws IndexOutOfBoundsException, IllegalArgumentException {
        checkForm(form);
        int degree = read(degrees, form);
        int code = read(codes, form);
        switch (what) {
            case 0:
                return degree;
            case 1:
                return code;
            case 2:
                return countRoots(degree, code);
            case 3:
                return isNull(degree, code) ? 1 : 0;
            case 4:
                return group.leaves(degree, code) ? 1 : 0;
            case 5:
                walk.alone(degree, code);
                return walk.count;
            case 6:
                walk.alone(degree, code);
                return walk.leastCode();
            default:
                throw new IllegalArgumentException("what is 0 to 6");
        }
    }

    public int at(int form, int x, int y) throws IndexOutOfBoundsException, IllegalArgumentException {
        checkForm(form);
        if (!field.has(x) || !field.has(y)) {
            throw new IllegalArgumentException("x and y are numbers of the field");
        }
        int degree = read(degrees, form);
        field.spell(read(codes, form), first);
        int all = 0;
        for (int i = 0; i <= degree; i++) {
            all += read(first, i) * field.power(x, degree - i) * field.power(y, i);
        }
        return field.rest(all);
    }

    public int multiplicity(int form, int point) throws IndexOutOfBoundsException {
        checkForm(form);
        if (point < 0 || point > field.p) {
            throw new IndexOutOfBoundsException("no such point");
        }
        return divisions(read(degrees, form), read(codes, form), point);
    }

    // ---- the group

    public int generator(int a, int b, int c, int d) throws IllegalArgumentException, IllegalStateException {
        if (!field.has(a) || !field.has(b) || !field.has(c) || !field.has(d)) {
            throw new IllegalArgumentException("a, b, c and d are numbers of the field");
        }
        if (field.rest(a * d - b * c) == 0) {
            throw new IllegalArgumentException("the determinant is 0");
        }
        if (group.told >= MOST_GENERATORS) {
            throw new IllegalStateException("there are 4 generators");
        }
        group.tell(a, b, c, d, columns);
        Arrays.fill(leftForms, 0);
        return group.told - 1;
    }

    public int order() {
        return group.size;
    }

    public int changed(int form, int generator) throws IndexOutOfBoundsException {
        checkForm(form);
        if (generator < 0 || generator >= group.told) {
            throw new IndexOutOfBoundsException("no such generator");
        }
        return group.image(generator, read(degrees, form), read(codes, form));
    }

    public int average(int form) throws IndexOutOfBoundsException {
        checkForm(form);
        int inverse = field.inverse(group.size);
        if (inverse == 0) {
            return NONE;
        }
        walk.alone(read(degrees, form), read(codes, form));
        // The group changes the form into each form of its orbit equally often.
        int often = walk.count > 0 ? group.size / walk.count : 0;
        return field.multiple(walk.sumOfCodes(), field.rest(often * inverse));
    }

    public int dimension(int degree) throws IllegalArgumentException {
        checkDegree(degree);
        equations.begin(degree + 1);
        for (int g = 0; g < group.told; g++) {
            columns.fill(group.generatorMatrix(g), degree);
            equations.askToLeave(columns);
        }
        return equations.freedom();
    }

    public int dimensionAnew(int degree) throws IllegalArgumentException {
        checkDegree(degree);
        int many = field.howMany(degree + 1);
        int left = 0;
        for (int code = 0; code < many; code++) {
            if (group.leaves(degree, code)) {
                left++;
            }
        }
        return field.exponent(left);
    }

    // ---- transvectants, values

    public int transvectant(int form, int other, int k) throws IndexOutOfBoundsException, IllegalArgumentException {
        checkForm(form);
        checkForm(other);
        int lesser = Math.min(read(degrees, form), read(degrees, other));
        if (k < 0 || k > lesser || !isDegree(read(degrees, form) + read(degrees, other) - 2 * k)) {
            throw new IllegalArgumentException("no such k");
        }
        return transvectantCode(form, other, k);
    }

    public int value(int form, int which) throws IndexOutOfBoundsException, IllegalArgumentException {
        checkForm(form);
        int degree = read(degrees, form);
        if (which < 0 || which >= countValues(degree)) {
            throw new IllegalArgumentException("forms of this degree do not have that value");
        }
        return valueOf(degree, read(codes, form), which);
    }

    public boolean weighs() {
        for (int form = 0; form < told; form++) {
            for (int g = 0; g < group.told; g++) {
                if (!weighsBy(read(degrees, form), read(codes, form), g)) {
                    return false;
                }
            }
        }
        return true;
    }

    // ---- orbits

    public int way(int form, int other) throws IndexOutOfBoundsException, IllegalArgumentException {
        checkForm(form);
        checkForm(other);
        checkAlike(form, other);
        walk.alone(read(degrees, form), read(codes, form));
        return walk.stepsTo(read(codes, other));
    }

    public int step(int form, int other, int step) throws IndexOutOfBoundsException, IllegalArgumentException {
        checkForm(form);
        checkForm(other);
        checkAlike(form, other);
        if (step < 0) {
            throw new IllegalArgumentException("a step below 0");
        }
        walk.alone(read(degrees, form), read(codes, form));
        return walk.stepOnWayTo(read(codes, other), step);
    }

    public int orbits(int degree) throws IllegalArgumentException {
        checkDegree(degree);
        int many = field.howMany(degree + 1);
        int orbits = 0;
        walk.clear();
        for (int code = 0; code < many; code++) {
            if (!walk.met(code)) {
                walk.go(degree, code);
                orbits++;
            }
        }
        return orbits;
    }

    public int orbitsAnew(int degree) throws IllegalArgumentException {
        checkDegree(degree);
        if (read(leftForms, degree) == 0) {
            write(leftForms, degree, countLeftForms(degree));
        }
        return group.size > 0 ? read(leftForms, degree) / group.size : 0;
    }

    // ---- what the calls share

    private void checkForm(int form) {
        if (form < 0 || form >= told) {
            throw new IndexOutOfBoundsException("no such form");
        }
    }

    private void checkAlike(int form, int other) {
        if (read(degrees, form) != read(degrees, other)) {
            throw new IllegalArgumentException("the degrees are unlike");
        }
    }

    private static void checkDegree(int degree) {
        if (!isDegree(degree)) {
            throw new IllegalArgumentException("the degree is 1 to 4");
        }
    }

    private static boolean isDegree(int degree) {
        return degree >= 1 && degree <= MOST_DEGREE;
    }

    private static int read(int[] row, int index) {
        return row != null && index >= 0 && index < row.length ? row[index] : 0;
    }

    private static void write(int[] row, int index, int number) {
        if (row != null && index >= 0 && index < row.length) {
            row[index] = number;
        }
    }

    /** How many forms of the degree each matrix of the group leaves, summed over the matrices. */
    private int countLeftForms(int degree) {
        int left = 0;
        for (int m = 0; m < group.size; m++) {
            columns.fill(group.matrix(m), degree);
            equations.begin(degree + 1);
            equations.askToLeave(columns);
            left += field.howMany(equations.freedom());
        }
        return left;
    }

    // ---- roots

    private int countRoots(int degree, int code) {
        int roots = 0;
        for (int point = 0; point <= field.p; point++) {
            if (divisions(degree, code, point) > 0) {
                roots++;
            }
        }
        return roots;
    }

    private boolean isNull(int degree, int code) {
        for (int point = 0; point <= field.p; point++) {
            if (2 * divisions(degree, code, point) > degree) {
                return true;
            }
        }
        return false;
    }

    /** How often the form can be divided; the zero form also when nothing but a number is left of it. */
    private int divisions(int degree, int code, int point) {
        field.spell(code, first);
        int times = 0;
        for (int rest = degree; rest >= 0; rest--) {
            boolean even = point == field.p ? divideByY(rest) : divideByPoint(rest, point);
            if (!even) {
                return times;
            }
            times++;
        }
        return times;
    }

    /** Makes of the first row its quotient by y, if there is no rest. */
    private boolean divideByY(int degree) {
        if (read(first, 0) != 0) {
            return false;
        }
        for (int i = 0; i < degree; i++) {
            write(first, i, read(first, i + 1));
        }
        return true;
    }

    /** Makes of the first row its quotient by x less t y; tells whether there is no rest. */
    private boolean divideByPoint(int degree, int t) {
        int carried = 0;
        for (int i = 0; i <= degree; i++) {
            carried = field.rest(read(first, i) + t * carried);
            write(first, i, carried);
        }
        return carried == 0;
    }

    // ---- transvectants

    private int transvectantCode(int form, int other, int k) {
        int degree = read(degrees, form) - k;
        int otherDegree = read(degrees, other) - k;
        Arrays.fill(sum, 0);
        for (int i = 0; i <= k; i++) {
            derive(form, k - i, i, first);
            derive(other, i, k - i, second);
            int factor = i % 2 == 0 ? choose(k, i) : -choose(k, i);
            addProduct(factor, degree, otherDegree);
        }
        return field.code(sum, degree + otherDegree + 1);
    }

    /** Puts into the row the form derived so often by x and by y. */
    private void derive(int form, int byX, int byY, int[] row) {
        int degree = read(degrees, form);
        field.spell(read(codes, form), row);
        // A coefficient goes to its own place or to one that is read already: the row serves as both.
        for (int i = byY; i <= degree - byX; i++) {
            int factor = falling(degree - i, byX) * falling(i, byY);
            write(row, i - byY, field.rest(read(row, i) * factor));
        }
    }

    private void addProduct(int factor, int degree, int otherDegree) {
        for (int i = 0; i <= degree; i++) {
            for (int j = 0; j <= otherDegree; j++) {
                int product = factor * read(first, i) * read(second, j);
                write(sum, i + j, field.rest(read(sum, i + j) + product));
            }
        }
    }

    private static int falling(int number, int factors) {
        int product = 1;
        for (int i = 0; i < factors; i++) {
            product *= number - i;
        }
        return product;
    }

    private static int choose(int k, int i) {
        return read(WAYS_TO_CHOOSE, k * WAYS_WIDTH + i);
    }

    // ---- values

    private static int countValues(int degree) {
        switch (degree) {
            case 2:
            case 3:
                return 1;
            case 4:
                return 2;
            default:
                return 0;
        }
    }

    private static int weightOf(int degree, int which) {
        switch (degree) {
            case 2:
                return 2;
            case 4:
                return which == 0 ? 4 : 6;
            default:
                return 6;
        }
    }

    private int valueOf(int degree, int code, int which) {
        field.spell(code, first);
        int c0 = read(first, 0);
        int c1 = read(first, 1);
        int c2 = read(first, 2);
        int c3 = read(first, 3);
        int c4 = read(first, 4);
        switch (degree) {
            case 2:
                return field.rest(c1 * c1 - 4 * c0 * c2);
            case 3:
                return field.rest(c1 * c1 * c2 * c2 - 4 * c0 * c2 * c2 * c2 - 4 * c1 * c1 * c1 * c3
                        - 27 * c0 * c0 * c3 * c3 + 18 * c0 * c1 * c2 * c3);
            case 4:
                return which == 0
                        ? field.rest(12 * c0 * c4 - 3 * c1 * c3 + c2 * c2)
                        : field.rest(72 * c0 * c2 * c4 + 9 * c1 * c2 * c3 - 27 * c0 * c3 * c3
                                - 27 * c4 * c1 * c1 - 2 * c2 * c2 * c2);
            default:
                return 0;
        }
    }

    private boolean weighsBy(int degree, int code, int g) {
        int determinant = field.determinant(group.generatorMatrix(g));
        int image = group.image(g, degree, code);
        for (int which = 0; which < countValues(degree); which++) {
            int factor = field.power(determinant, weightOf(degree, which));
            if (valueOf(degree, image, which) != field.rest(valueOf(degree, code, which) * factor)) {
                return false;
            }
        }
        return true;
    }

    // ---- classes inside

    /** The numbers 0 to p less 1, and codes: rows of up to five of them, the first one the lowest place. */
    private static final class Field {
        int p;

        Field(int prime) {
            p = prime;
        }

        boolean has(int number) {
            return number >= 0 && number < p;
        }

        int rest(int number) {
            return p > 0 ? Math.floorMod(number, p) : 0;
        }

        int power(int number, int exponent) {
            int product = 1;
            for (int i = 0; i < exponent; i++) {
                product = rest(product * number);
            }
            return product;
        }

        /** 0 if there is none. */
        int inverse(int number) {
            for (int other = 1; other < p; other++) {
                if (rest(rest(number) * other) == 1) {
                    return other;
                }
            }
            return 0;
        }

        int howMany(int places) {
            int many = 1;
            for (int i = 0; i < places; i++) {
                many *= p;
            }
            return many;
        }

        /** The number of places that have so many codes. */
        int exponent(int many) {
            int places = 0;
            while (places < MOST_PLACES && howMany(places) < many) {
                places++;
            }
            return places;
        }

        int digit(int code, int place) {
            int unit = howMany(place);
            return unit > 0 ? rest(code / unit) : 0;
        }

        void spell(int code, int[] row) {
            int left = code;
            for (int i = 0; i < MOST_PLACES; i++) {
                write(row, i, rest(left));
                left = p > 0 ? left / p : 0;
            }
        }

        int code(int[] row, int places) {
            int code = 0;
            for (int i = places - 1; i >= 0; i--) {
                code = code * p + read(row, i);
            }
            return code;
        }

        /** Both codes added, place by place. */
        int total(int code, int other) {
            int total = 0;
            int left = code;
            int otherLeft = other;
            int unit = 1;
            for (int i = 0; i < MOST_PLACES && p > 0; i++) {
                total += (left % p + otherLeft % p) % p * unit;
                left /= p;
                otherLeft /= p;
                unit *= p;
            }
            return total;
        }

        /** The code multiplied by a number, place by place. */
        int multiple(int code, int factor) {
            int total = 0;
            for (int i = 0; i < factor; i++) {
                total = total(total, code);
            }
            return total;
        }

        int determinant(int matrix) {
            return rest(digit(matrix, 0) * digit(matrix, 3) - digit(matrix, 1) * digit(matrix, 2));
        }

        /** The matrix that changes a form as the first one and the second one behind it. */
        int product(int matrix, int next) {
            int a = digit(matrix, 0);
            int b = digit(matrix, 1);
            int c = digit(matrix, 2);
            int d = digit(matrix, 3);
            int e = digit(next, 0);
            int f = digit(next, 1);
            int g = digit(next, 2);
            int h = digit(next, 3);
            return table(rest(a * e + b * g), rest(a * f + b * h), rest(c * e + d * g), rest(c * f + d * h));
        }

        int table(int a, int b, int c, int d) {
            return a + p * (b + p * (c + p * d));
        }
    }

    /** What a matrix makes of each form of a degree with one coefficient 1 and the others 0: a column each. */
    private static final class Columns {
        final Field field;
        final int[] cells = new int[MOST_PLACES * MOST_PLACES];
        int degree;

        Columns(Field field) {
            this.field = field;
        }

        int cell(int column, int place) {
            return read(cells, column * MOST_PLACES + place);
        }

        int code(int column) {
            int code = 0;
            for (int place = degree; place >= 0; place--) {
                code = code * field.p + cell(column, place);
            }
            return code;
        }

        void fill(int matrix, int wanted) {
            int a = field.digit(matrix, 0);
            int b = field.digit(matrix, 1);
            int c = field.digit(matrix, 2);
            int d = field.digit(matrix, 3);
            write(cells, 0, 1);
            for (int grown = 0; grown < wanted; grown++) {
                degree = grown;
                multiply(grown, grown + 1, c, d);
                for (int column = 0; column <= grown; column++) {
                    multiply(column, column, a, b);
                }
            }
            degree = wanted;
        }

        /** Puts into a column another one, or itself, multiplied by u x and v y together. */
        private void multiply(int from, int to, int u, int v) {
            // From the highest place down, for a column that is put into itself.
            for (int place = degree + 1; place >= 0; place--) {
                int byX = place <= degree ? u * cell(from, place) : 0;
                int byY = place > 0 ? v * cell(from, place - 1) : 0;
                write(cells, to * MOST_PLACES + place, field.rest(byX + byY));
            }
        }
    }

    /** Equations for the coefficients of a form, each with 0 on its right. */
    private static final class Equations {
        final Field field;
        final int[] cells = new int[MOST_GENERATORS * MOST_PLACES * MOST_PLACES];
        int unknowns;
        int count;

        Equations(Field field) {
            this.field = field;
        }

        void begin(int places) {
            unknowns = places;
            count = 0;
        }

        private int cell(int equation, int unknown) {
            return read(cells, equation * MOST_PLACES + unknown);
        }

        private void put(int equation, int unknown, int number) {
            write(cells, equation * MOST_PLACES + unknown, field.rest(number));
        }

        /** Each coefficient of the changed form is what it was. */
        void askToLeave(Columns columns) {
            for (int place = 0; place < unknowns; place++) {
                for (int column = 0; column < unknowns; column++) {
                    put(count, column, columns.cell(column, place) - (column == place ? 1 : 0));
                }
                count++;
            }
        }

        /** How many unknowns may be chosen at will; the equations are used up by it. */
        int freedom() {
            int rank = 0;
            for (int unknown = 0; unknown < unknowns; unknown++) {
                int pivot = findPivot(rank, unknown);
                if (pivot != NONE) {
                    swap(rank, pivot);
                    clearBelow(rank, unknown);
                    rank++;
                }
            }
            return unknowns - rank;
        }

        private int findPivot(int from, int unknown) {
            for (int equation = from; equation < count; equation++) {
                if (cell(equation, unknown) != 0) {
                    return equation;
                }
            }
            return NONE;
        }

        private void swap(int equation, int other) {
            for (int unknown = 0; unknown < unknowns; unknown++) {
                int kept = cell(equation, unknown);
                put(equation, unknown, cell(other, unknown));
                put(other, unknown, kept);
            }
        }

        private void clearBelow(int pivot, int unknown) {
            int inverse = field.inverse(cell(pivot, unknown));
            for (int equation = pivot + 1; equation < count; equation++) {
                int factor = field.rest(cell(equation, unknown) * inverse);
                for (int place = unknown; factor != 0 && place < unknowns; place++) {
                    put(equation, place, cell(equation, place) - factor * cell(pivot, place));
                }
            }
        }
    }

    /** A matrix told as a generator, and the code that it makes of each code of each degree. */
    private static final class Generator {
        // Where the codes of each degree begin in the row of images, and how long that row is.
        private static final int[] STARTS = {0, 0, 25, 150, 775};
        private static final int MOST_IMAGES = 3900;

        final int[] images = new int[MOST_IMAGES];
        int matrix;

        void become(int told, Field field, Columns columns) {
            matrix = told;
            for (int degree = 1; degree <= MOST_DEGREE; degree++) {
                columns.fill(matrix, degree);
                fillImages(degree, field, columns);
            }
        }

        /** The image of a sum is the sum of the images: each one comes of one found before. */
        private void fillImages(int degree, Field field, Columns columns) {
            int start = read(STARTS, degree);
            write(images, start, 0);
            for (int column = 0; column <= degree; column++) {
                int unit = field.howMany(column);
                int end = field.howMany(column + 1);
                int image = columns.code(column);
                for (int code = unit; code < end; code++) {
                    write(images, start + code, field.total(read(images, start + code - unit), image));
                }
            }
        }

        int image(int degree, int code) {
            return read(images, read(STARTS, degree) + code);
        }
    }

    /** The generators and all matrices that come of them. */
    private static final class Group {
        final Field field;
        final Generator[] generators = new Generator[MOST_GENERATORS];
        final int[] matrices = new int[MOST_MATRICES];
        final int[] found = new int[MOST_TABLES];
        int told;
        int size;

        Group(Field field) {
            this.field = field;
            close();
        }

        void forget() {
            told = 0;
            close();
        }

        void tell(int a, int b, int c, int d, Columns columns) {
            if (told < 0 || told >= generators.length) {
                return;
            }
            // One of before is used again, so that a run makes four of them at most.
            Generator generator = generators[told];
            if (generator == null) {
                generator = new Generator();
                generators[told] = generator;
            }
            generator.become(field.table(a, b, c, d), field, columns);
            told++;
            close();
        }

        private Generator pick(int g) {
            return g >= 0 && g < told && g < generators.length ? generators[g] : null;
        }

        /** Finds the matrices anew, from the one that changes nothing on. */
        private void close() {
            Arrays.fill(found, 0);
            size = 0;
            find(field.table(1, 0, 0, 1));
            for (int m = 0; m < size && m < MOST_MATRICES; m++) {
                for (int g = 0; g < told; g++) {
                    find(field.product(matrix(m), generatorMatrix(g)));
                }
            }
        }

        private void find(int matrix) {
            if (read(found, matrix) == 0 && size < matrices.length) {
                write(found, matrix, 1);
                write(matrices, size, matrix);
                size++;
            }
        }

        int matrix(int m) {
            return read(matrices, m);
        }

        int generatorMatrix(int g) {
            Generator generator = pick(g);
            return generator == null ? field.table(1, 0, 0, 1) : generator.matrix;
        }

        int image(int g, int degree, int code) {
            Generator generator = pick(g);
            return generator == null ? code : generator.image(degree, code);
        }

        /** Whether each generator leaves the form as it is. */
        boolean leaves(int degree, int code) {
            for (int g = 0; g < told; g++) {
                if (image(g, degree, code) != code) {
                    return false;
                }
            }
            return true;
        }
    }

    /** The orbit of a form, in the order in which the fewest steps, the lowest generators first, come to it. */
    private static final class Walk {
        final Group group;
        // The place of a code among the reached ones, and 1; 0 as long as it has none.
        final int[] places = new int[MOST_CODES];
        // Of each reached one its code, the place that it was reached from, by which generator, after how many steps.
        final int[] reached = new int[MOST_MATRICES];
        final int[] sources = new int[MOST_MATRICES];
        final int[] generators = new int[MOST_MATRICES];
        final int[] steps = new int[MOST_MATRICES];
        int count;

        Walk(Group group) {
            this.group = group;
        }

        void clear() {
            Arrays.fill(places, 0);
        }

        void alone(int degree, int code) {
            clear();
            go(degree, code);
        }

        /** Walks an orbit of which no code has been met since all was cleared. */
        void go(int degree, int code) {
            count = 0;
            reach(code, 0, NONE, 0);
            for (int place = 0; place < count && place < MOST_MATRICES; place++) {
                int from = read(reached, place);
                for (int g = 0; g < group.told; g++) {
                    reach(group.image(g, degree, from), place, g, read(steps, place) + 1);
                }
            }
        }

        private void reach(int code, int source, int generator, int after) {
            if (!met(code) && count < reached.length) {
                write(reached, count, code);
                write(sources, count, source);
                write(generators, count, generator);
                write(steps, count, after);
                count++;
                write(places, code, count);
            }
        }

        boolean met(int code) {
            return read(places, code) > 0;
        }

        int leastCode() {
            int least = read(reached, 0);
            for (int place = 1; place < count; place++) {
                least = Math.min(least, read(reached, place));
            }
            return least;
        }

        int sumOfCodes() {
            int sum = 0;
            for (int place = 0; place < count; place++) {
                sum = group.field.total(sum, read(reached, place));
            }
            return sum;
        }

        int stepsTo(int code) {
            return met(code) ? read(steps, read(places, code) - 1) : NONE;
        }

        int stepOnWayTo(int code, int step) {
            int all = stepsTo(code);
            if (step >= all) {
                return NONE;
            }
            int place = read(places, code) - 1;
            for (int behind = all - 1; behind > step; behind--) {
                place = read(sources, place);
            }
            return read(generators, place);
        }
    }
}
