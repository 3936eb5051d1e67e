import java.util.Random;

/** Runs of up to 512 calls, chosen by a fixed seed, each answer against the Reference's. */
public final class OracleTest {
    private static final int RUNS = 3000;
    private static final int TEXT_CALLS = 30;
    private static final int[] PRIMES = {2, 3, 5, 7, 11, 101, 251, 31991, 32003};
    private static final int[] EDGES = {Integer.MIN_VALUE, -8, -1, 0, 1, 3, 7, 8, 9, 126, Integer.MAX_VALUE};

    private final Checks checks = new Checks();
    private final Random random = new Random(20261115);
    private Desk desk;
    private Reference reference;
    private int variables;
    private int read;
    private final int[] faults = new int[5];

    public static void main(String[] args) {
        OracleTest test = new OracleTest();
        for (int run = 0; run < RUNS; run++) {
            test.desk = new Desk();
            test.reference = new Reference();
            test.variables = 2;
            // A step reads at most one text, and looks at what it made.
            while (test.desk.callsLeft() > 2 * TEXT_CALLS) {
                test.oneStep("run " + run + ": ");
            }
        }
        test.checks.due("every kind of fault was met often", test.metOften(), true);
        test.checks.end();
    }

    private boolean metOften() {
        System.out.println("texts read: " + read + "; faults 1 to 4: " + faults[1] + " " + faults[2] + " " + faults[3] + " " + faults[4]);
        return read > 1000 && faults[1] > 100 && faults[2] > 100 && faults[3] > 100 && faults[4] > 100;
    }

    private void same(String what, Object got, Outcome.Call want) {
        checks.due(what, got, Outcome.of(want));
    }

    private void sameDone(String what, Object got, Runnable want) {
        checks.due(what, got, Outcome.ofVoid(want));
    }

    private int any(int from, int to) {
        return from + random.nextInt(to - from + 1);
    }

    /** Mostly one that is there; now and then one far off. */
    private int index(int last) {
        return random.nextInt(40) == 0 ? EDGES[random.nextInt(EDGES.length)] : any(0, last);
    }

    private int number() {
        return random.nextInt(4) == 0 ? random.nextInt() : any(-3, 40);
    }

    private void oneStep(String at) {
        switch (random.nextInt(20)) {
            case 0 -> changeField(at);
            case 1, 2, 3, 4, 5 -> readOne(at);
            case 6, 7 -> addOne(at);
            case 8, 9, 10 -> multiplyOne(at);
            case 11 -> deriveOne(at);
            case 12 -> setOne(at);
            case 13 -> putOne(at);
            case 14 -> printOne(at, index(7));
            default -> lookAt(at, index(7));
        }
    }

    private void changeField(String at) {
        int p = random.nextInt(6) == 0 ? any(-2, 32010) : PRIMES[random.nextInt(PRIMES.length)];
        int n = random.nextInt(10) == 0 ? any(-1, 6) : any(1, 4);
        int order = random.nextInt(10) == 0 ? any(-1, 2) : any(0, 1);
        Object got = desk.field(p, n, order);
        sameDone(at + "field " + p + " " + n + " " + order, got, () -> reference.field(p, n, order));
        if (got.equals(Outcome.DONE)) {
            variables = n;
        }
    }

    private void putBoth(String at, long v, int n) {
        same(at + "put " + v + " " + n, desk.put(v, n), () -> reference.put(v, n));
    }

    private void putOne(String at) {
        if (random.nextInt(4) == 0) {
            putBoth(at, random.nextLong(), any(-2, 10));
        } else {
            putBoth(at, 0x2020202020202020L, any(-1, 9));
        }
    }

    private void readOne(String at) {
        String text = new Texts(random, variables).text();
        for (int begin = 0; begin < text.length(); begin += 8) {
            String part = text.substring(begin, Math.min(begin + 8, text.length()));
            // What stands above the bytes that come must not count.
            long above = part.length() == 8 ? 0 : random.nextLong() << 8 * part.length();
            putBoth(at, above | Desk.bytes(part), part.length());
        }
        int k = index(7);
        String what = at + "of '" + text + "' with " + variables + " ";
        Object got = desk.read(k);
        same(what + "read " + k, got, () -> reference.read(k));
        same(what + "fault 0", desk.fault(0), () -> reference.fault(0));
        same(what + "fault 1", desk.fault(1), () -> reference.fault(1));
        faults[reference.fault(0)]++;
        read += got instanceof Integer ? 1 : 0;
        lookAt(what, k);
    }

    private void addOne(String at) {
        int a = index(7);
        int b = index(7);
        int to = index(7);
        int f = number();
        sameDone(at + "add", desk.add(a, f, b, to), () -> reference.add(a, f, b, to));
        lookAt(at + "add ", to);
    }

    private void multiplyOne(String at) {
        int a = index(7);
        int b = index(7);
        int to = index(7);
        sameDone(at + "multiply", desk.multiply(a, b, to), () -> reference.multiply(a, b, to));
        lookAt(at + "multiply ", to);
    }

    private void deriveOne(String at) {
        int a = index(7);
        int v = index(variables);
        int to = index(7);
        sameDone(at + "derive", desk.derive(a, v, to), () -> reference.derive(a, v, to));
        lookAt(at + "derive ", to);
    }

    private void setOne(String at) {
        int a = index(7);
        int v = index(variables);
        int to = index(7);
        int number = number();
        sameDone(at + "set", desk.set(a, v, number, to), () -> reference.set(a, v, number, to));
        lookAt(at + "set ", to);
    }

    /** As much of the output as calls are left for. */
    private void printOne(String at, int k) {
        same(at + "print " + k, desk.print(k), () -> reference.print(k));
        for (int i = 0; desk.callsLeft() > 0 && (i == 0 || reference.output(i - 1) >= 0); i++) {
            int each = i;
            same(at + "output " + i, desk.output(i), () -> reference.output(each));
        }
        sameByte(at, index(12));
    }

    private void sameByte(String at, int i) {
        if (desk.callsLeft() > 0) {
            same(at + "output " + i, desk.output(i), () -> reference.output(i));
        }
    }

    private void lookAt(String at, int k) {
        int x = number();
        int y = number();
        int z = number();
        int w = number();
        same(at + "value of " + k, desk.value(k, x, y, z, w), () -> reference.value(k, x, y, z, w));
        same(at + "terms of " + k, desk.about(k, 0), () -> reference.about(k, 0));
        same(at + "degree of " + k, desk.about(k, 1), () -> reference.about(k, 1));
        int i = any(-1, Math.max(0, reference.about(k, 0)));
        for (int what = 0; what < 5; what++) {
            int each = what;
            same(at + "term " + k + " " + i + " " + what, desk.term(k, i, what), () -> reference.term(k, i, each));
        }
        int what = index(5);
        same(at + "term " + k + " 0 " + what, desk.term(k, 0, what), () -> reference.term(k, 0, what));
        same(at + "about " + k + " " + what, desk.about(k, what), () -> reference.about(k, what));
        same(at + "fault " + what, desk.fault(what), () -> reference.fault(what));
        sameByte(at, index(12));
    }
}
