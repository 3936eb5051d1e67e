import java.util.Random;

/** Runs of 512 calls, chosen by a fixed seed, each answer against the Reference's. */
public final class OracleTest {
    private static final int RUNS = 400;
    private static final int CALLS = 512;
    private static final int[] PRIMES = {2, 3, 5, 7, 11, 101, 251, 31991, 32003};

    private final Checks checks = new Checks();
    private final Random random = new Random(20261115);
    private PolynomialDesk desk;
    private Reference reference;
    private int variables;
    private int read;
    private final int[] faults = new int[5];

    public static void main(String[] args) {
        OracleTest test = new OracleTest();
        for (int run = 0; run < RUNS; run++) {
            test.desk = new PolynomialDesk();
            test.reference = new Reference();
            test.variables = 2;
            for (int call = 0; call < CALLS; call++) {
                test.oneCall(run);
            }
        }
        test.checks.due("every kind of fault was met often", test.metOften(), true);
        test.checks.end();
    }

    private boolean metOften() {
        System.out.println("texts read: " + read + "; faults 1 to 4: " + faults[1] + " " + faults[2] + " " + faults[3] + " " + faults[4]);
        return read > 1000 && faults[1] > 100 && faults[2] > 100 && faults[3] > 100 && faults[4] > 100;
    }

    private void same(String what, Checks.Call got, Checks.Call want) {
        checks.due(what, Checks.outcome(got), Checks.outcome(want));
    }

    private void sameDone(String what, Runnable got, Runnable want) {
        checks.due(what, Checks.outcome(got), Checks.outcome(want));
    }

    private int any(int from, int to) {
        return from + random.nextInt(to - from + 1);
    }

    /** Mostly one that is there; now and then one far off. */
    private int index(int last) {
        int[] edges = Checks.edges();
        return random.nextInt(40) == 0 ? edges[random.nextInt(edges.length)] : any(0, last);
    }

    private int number() {
        return random.nextInt(4) == 0 ? random.nextInt() : any(-3, 40);
    }

    private void oneCall(int run) {
        String at = "run " + run + ": ";
        switch (random.nextInt(20)) {
            case 0 -> changeField(at);
            case 1, 2, 3, 4, 5 -> readOne(at);
            case 6, 7 -> addOne(at);
            case 8, 9, 10 -> multiplyOne(at);
            case 11 -> deriveOne(at);
            case 12 -> setOne(at);
            case 13 -> valueOne(at);
            case 14 -> putOne(at);
            case 15, 16 -> printOne(at);
            default -> lookAtOne(at);
        }
    }

    private void changeField(String at) {
        // A field change empties all polynomials, so that too many of them would leave nothing to reckon with.
        if (random.nextInt(4) != 0) {
            return;
        }
        int p = random.nextInt(6) == 0 ? any(-2, 32010) : PRIMES[random.nextInt(PRIMES.length)];
        int n = random.nextInt(10) == 0 ? any(-1, 6) : any(1, 4);
        int order = random.nextInt(10) == 0 ? any(-1, 2) : any(0, 1);
        Object want = Checks.outcome(() -> reference.field(p, n, order));
        checks.due(at + "field " + p + " " + n + " " + order, Checks.outcome(() -> desk.field(p, n, order)), want);
        if (want.equals("done")) {
            variables = n;
        }
    }

    private void putBoth(String at, long v, int n) {
        checks.due(at + "put " + v + " " + n, desk.put(v, n), reference.put(v, n));
    }

    private void putOne(String at) {
        if (random.nextInt(4) == 0) {
            putBoth(at, random.nextLong(), any(-2, 10));
        } else {
            putBoth(at, 0x2020202020202020L, any(-1, 9));
        }
    }

    private void readOne(String at) {
        String text = new Texts(random, variables).text();
        for (int begin = 0; begin < text.length(); begin += 8) {
            String part = text.substring(begin, Math.min(begin + 8, text.length()));
            long v = random.nextInt();
            for (char c : part.toCharArray()) {
                v = v << 8 | c;
            }
            putBoth(at, v, part.length());
        }
        int k = index(7);
        String what = at + "of '" + text + "' with " + variables + " ";
        Object want = Checks.outcome(() -> reference.read(k));
        checks.due(what + "read " + k, Checks.outcome(() -> desk.read(k)), want);
        checks.due(what + "fault 0", desk.fault(0), reference.fault(0));
        checks.due(what + "fault 1", desk.fault(1), reference.fault(1));
        faults[reference.fault(0)]++;
        read += want instanceof Integer ? 1 : 0;
        samePrinted(what, k);
    }

    private void samePrinted(String what, int k) {
        same(what + "print " + k, () -> desk.print(k), () -> reference.print(k));
        StringBuilder want = new StringBuilder();
        for (int i = 0; reference.output(i) >= 0; i++) {
            want.append((char) reference.output(i));
        }
        checks.due(what + "output", Checks.output(desk), want.toString());
    }

    private void addOne(String at) {
        int a = index(7);
        int b = index(7);
        int to = index(7);
        int f = number();
        sameDone(at + "add", () -> desk.add(a, f, b, to), () -> reference.add(a, f, b, to));
        samePrinted(at + "add", to);
    }

    private void multiplyOne(String at) {
        int a = index(7);
        int b = index(7);
        int to = index(7);
        sameDone(at + "multiply", () -> desk.multiply(a, b, to), () -> reference.multiply(a, b, to));
        samePrinted(at + "multiply", to);
    }

    private void deriveOne(String at) {
        int a = index(7);
        int v = index(variables);
        int to = index(7);
        sameDone(at + "derive", () -> desk.derive(a, v, to), () -> reference.derive(a, v, to));
        samePrinted(at + "derive", to);
    }

    private void setOne(String at) {
        int a = index(7);
        int v = index(variables);
        int to = index(7);
        int number = number();
        sameDone(at + "set", () -> desk.set(a, v, number, to), () -> reference.set(a, v, number, to));
        samePrinted(at + "set", to);
    }

    private void valueOne(String at) {
        int a = index(7);
        int x = number();
        int y = number();
        int z = number();
        int w = number();
        same(at + "value", () -> desk.value(a, x, y, z, w), () -> reference.value(a, x, y, z, w));
    }

    private void printOne(String at) {
        samePrinted(at, index(7));
    }

    private void lookAtOne(String at) {
        int k = index(7);
        int i = index(12);
        int what = index(5);
        checks.due(at + "term " + k + " " + i + " " + what, desk.term(k, i, what), reference.term(k, i, what));
        checks.due(at + "about " + k + " " + what, desk.about(k, what), reference.about(k, what));
        checks.due(at + "about " + k, desk.about(k, 0), reference.about(k, 0));
        checks.due(at + "degree " + k, desk.about(k, 1), reference.about(k, 1));
        checks.due(at + "fault " + what, desk.fault(what), reference.fault(what));
        checks.due(at + "output " + i, desk.output(i), reference.output(i));
    }
}
