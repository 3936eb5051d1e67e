import java.util.Arrays;

/**
 * Polynomials over the numbers modulo a prime: read from text, with the place of the first fault,
 * reckoned with, and printed.
 */
public final class PolynomialDesk {
    public static final int NONE = -1;

    private static final int POLYNOMIALS = 8;
    private static final int GREATEST_PRIME = 32003;
    private static final int COEFFICIENT = 4;

    private final Ring ring;
    private final Reader reader;
    private final Printer printer;
    private final int[][] polynomials;
    private final int[] numbers;

    public PolynomialDesk() {
        ring = new Ring();
        ring.prepare(7, 2, 0);
        reader = new Reader(ring);
        printer = new Printer(ring);
        polynomials = new int[POLYNOMIALS][Ring.MONOMIALS];
        numbers = new int[Ring.VARIABLES];
    }

    public void field(int p, int n, int order) throws IllegalArgumentException {
        if (!isPrime(p)) {
            throw new IllegalArgumentException("no prime up to 32003");
        }
        if (n < 1 || n > Ring.VARIABLES) {
            throw new IllegalArgumentException("not 1 to 4 variables");
        }
        if (order != 0 && order != 1) {
            throw new IllegalArgumentException("no such order");
        }
        ring.prepare(p, n, order);
        for (int k = 0; k < POLYNOMIALS; k++) {
            Arrays.fill(polynomials[k], 0);
        }
        printer.clear();
    }

    public boolean put(long v, int n) {
        return reader.takeBytes(v, n);
    }

    public int read(int k) throws IndexOutOfBoundsException, IllegalArgumentException {
        requirePolynomial(k);
        if (!reader.readText(polynomials[k])) {
            throw new IllegalArgumentException("a fault in the text");
        }
        return ring.countTerms(polynomials[k]);
    }

    public int fault(int what) {
        if (what == 0) {
            return reader.latestFault();
        }
        return what == 1 ? reader.latestPlace() : NONE;
    }

    public void add(int a, int f, int b, int to) throws IndexOutOfBoundsException {
        requirePolynomial(a);
        requirePolynomial(b);
        requirePolynomial(to);
        ring.writeSum(polynomials[a], f, polynomials[b], polynomials[to]);
    }

    public void multiply(int a, int b, int to) throws IndexOutOfBoundsException, IllegalStateException {
        requirePolynomial(a);
        requirePolynomial(b);
        requirePolynomial(to);
        if (ring.isProductTooHigh(polynomials[a], polynomials[b])) {
            throw new IllegalStateException("the product's degree is too high");
        }
        ring.writeProduct(polynomials[a], polynomials[b], polynomials[to]);
    }

    public void derive(int a, int v, int to) throws IndexOutOfBoundsException {
        requirePolynomial(a);
        requireVariable(v);
        requirePolynomial(to);
        ring.writeDerivative(polynomials[a], v, polynomials[to]);
    }

    public void set(int a, int v, int number, int to) throws IndexOutOfBoundsException {
        requirePolynomial(a);
        requireVariable(v);
        requirePolynomial(to);
        ring.writeSubstitute(polynomials[a], v, number, polynomials[to]);
    }

    public int value(int a, int x, int y, int z, int w) throws IndexOutOfBoundsException {
        requirePolynomial(a);
        numbers[0] = x;
        numbers[1] = y;
        numbers[2] = z;
        numbers[3] = w;
        return ring.evaluate(polynomials[a], numbers);
    }

    public int about(int k, int what) {
        if (!isPolynomial(k)) {
            return NONE;
        }
        if (what == 0) {
            return ring.countTerms(polynomials[k]);
        }
        return what == 1 ? ring.degreeOf(polynomials[k]) : NONE;
    }

    public int term(int k, int i, int what) {
        if (!isPolynomial(k) || what < 0 || what > COEFFICIENT) {
            return NONE;
        }
        int index = ring.indexOfTerm(polynomials[k], i);
        if (index < 0 || index >= Ring.MONOMIALS) {
            return NONE;
        }
        return what == COEFFICIENT ? polynomials[k][index] : ring.exponentOf(index, what);
    }

    public int print(int k) throws IndexOutOfBoundsException {
        requirePolynomial(k);
        return printer.writePolynomial(polynomials[k]);
    }

    public int output(int i) {
        return printer.byteAt(i);
    }

    private static boolean isPolynomial(int k) {
        return k >= 0 && k < POLYNOMIALS;
    }

    private static void requirePolynomial(int k) {
        if (!isPolynomial(k)) {
            throw new IndexOutOfBoundsException("no such polynomial");
        }
    }

    private void requireVariable(int v) {
        if (v < 0 || v >= ring.variables()) {
            throw new IndexOutOfBoundsException("no such variable");
        }
    }

    private static boolean isPrime(int p) {
        if (p < 2 || p > GREATEST_PRIME) {
            return false;
        }
        for (int divisor = 2; divisor * divisor <= p; divisor++) {
            if (p % divisor == 0) {
                return false;
            }
        }
        return true;
    }

    /**
     * The field, the monomials in their order, and the reckoning. A polynomial is a row of
     * coefficients, one for each monomial, the greatest monomial first, so that terms need no
     * sorting and no call makes an object.
     */
    private static final class Ring {
        static final int VARIABLES = 4;
        // 4 variables up to degree 5 have the most: 126, against 31, 91 and 120.
        static final int MONOMIALS = 126;
        // One key for each choice of 4 exponents 0 .. 5; fewer variables need fewer.
        private static final int KEYS = 1296;
        // A power's number has 2 digits, so it is below 128.
        private static final int POWER_BITS = 7;
        private static final int[] HIGHEST = {30, 12, 7, 5};

        private int prime;
        private int variables;
        private int order;
        private int highest;
        private int count;
        private final int[][] exponents;
        private final int[] degrees;
        // A monomial's key has its exponents as digits, so that keys add up when monomials multiply.
        private final int[] keys;
        private final int[] weights;
        private final int[] indexes;
        private final int[] chosen;
        private final int[] scratch;
        private final int[] base;

        Ring() {
            exponents = new int[VARIABLES][MONOMIALS];
            degrees = new int[MONOMIALS];
            keys = new int[MONOMIALS];
            weights = new int[VARIABLES];
            indexes = new int[KEYS];
            chosen = new int[VARIABLES];
            scratch = new int[MONOMIALS];
            base = new int[MONOMIALS];
        }

        void prepare(int newPrime, int newVariables, int newOrder) {
            if (newPrime < 2 || newVariables < 1 || newVariables > VARIABLES) {
                return;
            }
            prime = newPrime;
            variables = newVariables;
            order = newOrder;
            highest = HIGHEST[newVariables - 1];
            count = 0;
            Arrays.fill(indexes, NONE);
            Arrays.fill(chosen, 0);
            int weight = 1;
            for (int v = 0; v < VARIABLES; v++) {
                weights[v] = v < variables ? weight : 0;
                weight *= highest + 1;
            }
            for (int degree = highest; degree >= 0; degree--) {
                listMonomials(0, degree, degree);
            }
        }

        /** Lists those of one degree, the greatest first; the last variable chosen takes the rest. */
        private void listMonomials(int depth, int rest, int degree) {
            if (depth < 0 || depth >= variables) {
                return;
            }
            int v = order == 1 ? depth : variables - 1 - depth;
            if (depth == variables - 1) {
                chosen[v] = rest;
                recordMonomial(degree);
                return;
            }
            for (int step = 0; step <= rest; step++) {
                int exponent = order == 1 ? rest - step : step;
                chosen[v] = exponent;
                listMonomials(depth + 1, rest - exponent, degree);
            }
        }

        private void recordMonomial(int degree) {
            if (count >= MONOMIALS) {
                return;
            }
            int key = 0;
            for (int v = 0; v < VARIABLES; v++) {
                exponents[v][count] = chosen[v];
                key += chosen[v] * weights[v];
            }
            degrees[count] = degree;
            keys[count] = key;
            if (key >= 0 && key < KEYS) {
                indexes[key] = count;
            }
            count++;
        }

        int variables() {
            return variables;
        }

        int exponentOf(int index, int v) {
            if (index < 0 || index >= count || v < 0 || v >= VARIABLES) {
                return 0;
            }
            return exponents[v][index];
        }

        int countTerms(int[] row) {
            int terms = 0;
            for (int i = 0; i < count; i++) {
                if (row[i] != 0) {
                    terms++;
                }
            }
            return terms;
        }

        /** Where term number wanted stands in the row, or NONE. */
        int indexOfTerm(int[] row, int wanted) {
            int terms = 0;
            for (int i = 0; i < count; i++) {
                if (row[i] != 0) {
                    if (terms == wanted) {
                        return i;
                    }
                    terms++;
                }
            }
            return NONE;
        }

        int degreeOf(int[] row) {
            int first = leadingOf(row);
            return first < count ? degrees[first] : NONE;
        }

        boolean isProductTooHigh(int[] a, int[] b) {
            int left = degreeOf(a);
            int right = degreeOf(b);
            return left >= 0 && right >= 0 && left + right > highest;
        }

        boolean isPowerTooHigh(int[] a, int exponent) {
            int degree = degreeOf(a);
            return degree >= 0 && degree * exponent > highest;
        }

        void writeNumber(int number, int[] to) {
            Arrays.fill(to, 0);
            addAt(0, reduce(number), to);
        }

        void writeVariable(int v, int[] to) {
            Arrays.fill(to, 0);
            if (v >= 0 && v < variables) {
                addAt(weights[v], 1, to);
            }
        }

        void writeCopy(int[] from, int[] to) {
            System.arraycopy(from, 0, to, 0, MONOMIALS);
        }

        void writeSum(int[] a, int f, int[] b, int[] to) {
            int times = reduce(f);
            for (int i = 0; i < count; i++) {
                to[i] = reduce(a[i] + times * b[i]);
            }
        }

        /** The caller has asked isProductTooHigh; any of the rows may be the same one. */
        void writeProduct(int[] a, int[] b, int[] to) {
            Arrays.fill(scratch, 0);
            int firstOfB = leadingOf(b);
            for (int i = leadingOf(a); i < count; i++) {
                for (int j = firstOfB; a[i] != 0 && j < count; j++) {
                    if (b[j] != 0) {
                        addAt(keys[i] + keys[j], a[i] * b[j], scratch);
                    }
                }
            }
            System.arraycopy(scratch, 0, to, 0, MONOMIALS);
        }

        /** The caller has asked isPowerTooHigh. By squares, so that no step passes the degree of the whole. */
        void writePower(int[] a, int exponent, int[] to) {
            System.arraycopy(a, 0, base, 0, MONOMIALS);
            writeNumber(1, to);
            for (int bit = POWER_BITS - 1; bit >= 0; bit--) {
                if (exponent >> bit > 1) {
                    writeProduct(to, to, to);
                }
                if ((exponent >> bit & 1) == 1) {
                    writeProduct(to, base, to);
                }
            }
        }

        void writeDerivative(int[] a, int v, int[] to) {
            Arrays.fill(scratch, 0);
            for (int i = 0; i < count; i++) {
                int exponent = exponentOf(i, v);
                if (a[i] != 0 && exponent > 0) {
                    addAt(keys[i] - weights[v], a[i] * exponent, scratch);
                }
            }
            System.arraycopy(scratch, 0, to, 0, MONOMIALS);
        }

        void writeSubstitute(int[] a, int v, int number, int[] to) {
            Arrays.fill(scratch, 0);
            if (v >= 0 && v < variables) {
                int reduced = reduce(number);
                for (int i = 0; i < count; i++) {
                    int exponent = exponents[v][i];
                    if (a[i] != 0) {
                        addAt(keys[i] - exponent * weights[v], timesPower(a[i], reduced, exponent), scratch);
                    }
                }
            }
            System.arraycopy(scratch, 0, to, 0, MONOMIALS);
        }

        int evaluate(int[] a, int[] numbers) {
            int total = 0;
            for (int i = 0; i < count; i++) {
                int product = a[i];
                for (int v = 0; v < variables && v < numbers.length && product != 0; v++) {
                    product = timesPower(product, reduce(numbers[v]), exponents[v][i]);
                }
                total = reduce(total + product);
            }
            return total;
        }

        private int timesPower(int coefficient, int number, int exponent) {
            int product = coefficient;
            for (int i = 0; i < exponent; i++) {
                product = reduce(product * number);
            }
            return product;
        }

        /** The number is not negative, and at most a product of two numbers of the field. */
        private void addAt(int key, int number, int[] to) {
            int index = key >= 0 && key < KEYS ? indexes[key] : NONE;
            if (index >= 0 && index < MONOMIALS && prime > 1) {
                to[index] = (to[index] + number) % prime;
            }
        }

        private int leadingOf(int[] row) {
            int i = 0;
            while (i < count && row[i] == 0) {
                i++;
            }
            return i;
        }

        private int reduce(int number) {
            if (prime < 2) {
                return 0;
            }
            int rest = number % prime;
            return rest < 0 ? rest + prime : rest;
        }
    }

    /** The text in hand, and its reading from left to right, which stops at the first fault. */
    private static final class Reader {
        private static final int LONGEST = 200;
        private static final int DEEPEST = 20;
        private static final int BYTES_OF_LONG = 8;
        private static final int NUMBER_DIGITS = 9;
        private static final int POWER_DIGITS = 2;
        private static final int END = -1;
        private static final int OUT_OF_PLACE = 1;
        private static final int TOO_DEEP = 2;
        private static final int TOO_HIGH = 3;
        private static final int TOO_MANY_DIGITS = 4;

        private final Ring ring;
        private final char[] text;
        private int length;
        private int at;
        private int fault;
        private int place;
        // A sum and a product stand open at each depth; a factor is used before the next is read.
        private final int[][] sums;
        private final int[][] products;
        private final int[] factor;

        Reader(Ring ring) {
            this.ring = ring;
            text = new char[LONGEST];
            place = NONE;
            sums = new int[DEEPEST + 1][Ring.MONOMIALS];
            products = new int[DEEPEST + 1][Ring.MONOMIALS];
            factor = new int[Ring.MONOMIALS];
        }

        boolean takeBytes(long v, int n) {
            if (n < 0 || n > BYTES_OF_LONG || length + n > LONGEST) {
                return false;
            }
            for (int i = n - 1; i >= 0; i--) {
                text[length] = (char) (v >>> (8 * i) & 255);
                length++;
            }
            return true;
        }

        int latestFault() {
            return fault;
        }

        int latestPlace() {
            return place;
        }

        /** Whether the text had no fault; if it had one, the row stays. */
        boolean readText(int[] to) {
            at = 0;
            fault = 0;
            place = NONE;
            readSum(0);
            if (fault == 0 && nextByte() != END) {
                noteFault(OUT_OF_PLACE, at);
            }
            length = 0;
            if (fault != 0) {
                return false;
            }
            ring.writeCopy(sums[0], to);
            return true;
        }

        private void readSum(int depth) {
            if (depth < 0 || depth > DEEPEST) {
                return;
            }
            int[] sum = sums[depth];
            Arrays.fill(sum, 0);
            int sign = 1;
            if (nextByte() == '-') {
                sign = -1;
                at++;
            }
            readTerm(depth);
            ring.writeSum(sum, sign, products[depth], sum);
            for (int terms = 1; terms < LONGEST && fault == 0 && isSign(nextByte()); terms++) {
                sign = nextByte() == '-' ? -1 : 1;
                at++;
                readTerm(depth);
                ring.writeSum(sum, sign, products[depth], sum);
            }
        }

        private void readTerm(int depth) {
            if (depth < 0 || depth > DEEPEST) {
                return;
            }
            int[] product = products[depth];
            readFactor(depth);
            ring.writeCopy(factor, product);
            for (int factors = 1; factors < LONGEST && fault == 0 && nextByte() == '*'; factors++) {
                int star = at;
                at++;
                readFactor(depth);
                if (fault == 0 && ring.isProductTooHigh(product, factor)) {
                    noteFault(TOO_HIGH, star);
                }
                if (fault == 0) {
                    ring.writeProduct(product, factor, product);
                }
            }
        }

        private void readFactor(int depth) {
            readBareFactor(depth);
            if (fault != 0 || nextByte() != '^') {
                return;
            }
            int caret = at;
            at++;
            int exponent = readNumber(POWER_DIGITS);
            if (fault == 0 && ring.isPowerTooHigh(factor, exponent)) {
                noteFault(TOO_HIGH, caret);
            }
            if (fault == 0) {
                ring.writePower(factor, exponent, factor);
            }
        }

        private void readBareFactor(int depth) {
            int next = nextByte();
            int v = variableOf(next);
            if (isDigit(next)) {
                ring.writeNumber(readNumber(NUMBER_DIGITS), factor);
            } else if (v >= 0 && v < ring.variables()) {
                ring.writeVariable(v, factor);
                at++;
            } else if (next == '(') {
                readGroup(depth + 1);
            } else {
                noteFault(OUT_OF_PLACE, at);
            }
        }

        private void readGroup(int depth) {
            if (depth < 0 || depth > DEEPEST) {
                noteFault(TOO_DEEP, at);
                return;
            }
            at++;
            readSum(depth);
            if (fault != 0) {
                return;
            }
            if (nextByte() != ')') {
                noteFault(OUT_OF_PLACE, at);
                return;
            }
            at++;
            ring.writeCopy(sums[depth], factor);
        }

        private int readNumber(int mostDigits) {
            if (!isDigit(nextByte())) {
                noteFault(OUT_OF_PLACE, at);
                return 0;
            }
            int begin = at;
            int number = 0;
            while (at < length && isDigit(text[at])) {
                if (at - begin >= mostDigits) {
                    noteFault(TOO_MANY_DIGITS, begin);
                    return 0;
                }
                number = number * 10 + (text[at] - '0');
                at++;
            }
            return number;
        }

        /** The byte at which reading goes on, behind any spaces, or END. */
        private int nextByte() {
            while (at < length && text[at] == ' ') {
                at++;
            }
            return at < length ? text[at] : END;
        }

        private void noteFault(int kind, int where) {
            fault = kind;
            place = where;
        }

        private static boolean isSign(int next) {
            return next == '+' || next == '-';
        }

        private static boolean isDigit(int next) {
            return next >= '0' && next <= '9';
        }

        private static int variableOf(int next) {
            if (next == 'w') {
                return 3;
            }
            return next >= 'x' && next <= 'z' ? next - 'x' : NONE;
        }
    }

    /** The output. */
    private static final class Printer {
        // The longest term is like +31999*x^2*y^2*z^3, of 18 bytes.
        private static final int TERM_BYTES = 18;
        private static final int GREATEST_UNIT = 10000;
        private static final String NAMES = "xyzw";

        private final Ring ring;
        private final char[] bytes;
        private int length;

        Printer(Ring ring) {
            this.ring = ring;
            bytes = new char[Ring.MONOMIALS * TERM_BYTES];
        }

        void clear() {
            length = 0;
        }

        int byteAt(int i) {
            return i >= 0 && i < length ? bytes[i] : NONE;
        }

        int writePolynomial(int[] row) {
            clear();
            for (int i = 0; i < row.length; i++) {
                if (row[i] != 0) {
                    if (length > 0) {
                        writeByte('+');
                    }
                    writeTerm(i, row[i]);
                }
            }
            if (length == 0) {
                writeByte('0');
            }
            return length;
        }

        private void writeTerm(int index, int coefficient) {
            int begin = length;
            if (coefficient != 1) {
                writeNumber(coefficient);
            }
            for (int v = 0; v < Ring.VARIABLES; v++) {
                int exponent = ring.exponentOf(index, v);
                if (exponent > 0) {
                    if (length > begin) {
                        writeByte('*');
                    }
                    writeByte(NAMES.charAt(v));
                    if (exponent > 1) {
                        writeByte('^');
                        writeNumber(exponent);
                    }
                }
            }
            if (length == begin) {
                writeByte('1');
            }
        }

        private void writeNumber(int number) {
            boolean begun = false;
            for (int unit = GREATEST_UNIT; unit > 0; unit /= 10) {
                int digit = number / unit % 10;
                begun = begun || digit != 0 || unit == 1;
                if (begun) {
                    writeByte((char) ('0' + digit));
                }
            }
        }

        private void writeByte(char next) {
            if (length < bytes.length) {
                bytes[length] = next;
                length++;
            }
        }
    }
}
