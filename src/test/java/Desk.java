/**
 * A PolynomialDesk as the tests use it: each call comes to an Outcome, and none is made beyond the
 * 512th, since what later ones answer is free.
 */
final class Desk {
    private static final int MOST_CALLS = 512;

    private final PolynomialDesk desk = new PolynomialDesk();
    private int calls = 0;

    /** A new one with this field, and the texts as polynomials 0 on. */
    static Desk with(int p, int n, int order, String... texts) {
        Desk desk = new Desk();
        mustBe(desk.field(p, n, order), Outcome.DONE);
        for (int k = 0; k < texts.length; k++) {
            if (!(desk.readText(k, texts[k]) instanceof Integer)) {
                throw new AssertionError("not read: " + texts[k]);
            }
        }
        return desk;
    }

    private static void mustBe(Object got, Object want) {
        if (!want.equals(got)) {
            throw new AssertionError(got + ", not " + want);
        }
    }

    private void count() {
        if (calls == MOST_CALLS) {
            throw new AssertionError("a test makes more than " + MOST_CALLS + " calls of one object");
        }
        calls++;
    }

    private Object outcome(Outcome.Call call) {
        count();
        return Outcome.of(call);
    }

    private Object outcomeOfVoid(Runnable call) {
        count();
        return Outcome.ofVoid(call);
    }

    int callsLeft() {
        return MOST_CALLS - calls;
    }

    Object field(int p, int n, int order) {
        return outcomeOfVoid(() -> desk.field(p, n, order));
    }

    Object put(long v, int n) {
        return outcome(() -> desk.put(v, n));
    }

    Object read(int k) {
        return outcome(() -> desk.read(k));
    }

    Object fault(int what) {
        return outcome(() -> desk.fault(what));
    }

    Object add(int a, int f, int b, int to) {
        return outcomeOfVoid(() -> desk.add(a, f, b, to));
    }

    Object multiply(int a, int b, int to) {
        return outcomeOfVoid(() -> desk.multiply(a, b, to));
    }

    Object derive(int a, int v, int to) {
        return outcomeOfVoid(() -> desk.derive(a, v, to));
    }

    Object set(int a, int v, int number, int to) {
        return outcomeOfVoid(() -> desk.set(a, v, number, to));
    }

    Object value(int a, int x, int y, int z, int w) {
        return outcome(() -> desk.value(a, x, y, z, w));
    }

    Object about(int k, int what) {
        return outcome(() -> desk.about(k, what));
    }

    Object term(int k, int i, int what) {
        return outcome(() -> desk.term(k, i, what));
    }

    Object print(int k) {
        return outcome(() -> desk.print(k));
    }

    Object output(int i) {
        return outcome(() -> desk.output(i));
    }

    /** Puts the text, up to 8 bytes a call; whether all of it came in. */
    boolean take(String text) {
        boolean all = true;
        for (int begin = 0; begin < text.length(); begin += 8) {
            String part = text.substring(begin, Math.min(text.length(), begin + 8));
            all &= put(bytes(part), part.length()).equals(true);
        }
        return all;
    }

    static long bytes(String text) {
        long bytes = 0;
        for (char c : text.toCharArray()) {
            bytes = bytes << 8 | c;
        }
        return bytes;
    }

    Object readText(int k, String text) {
        return take(text) ? read(k) : "not taken";
    }

    /** FAULT@PLACE of the latest read. */
    String verdict() {
        return fault(0) + "@" + fault(1);
    }

    /** The output up to the first byte that there is none of. */
    String outputText() {
        StringBuilder all = new StringBuilder();
        for (int i = 0; output(i) instanceof Integer next && next >= 0; i++) {
            all.append((char) (int) next);
        }
        return all.toString();
    }

    /** The polynomial PRINTED, which is its output then. */
    String printed(int k) {
        Object length = print(k);
        String all = outputText();
        return length.equals(all.length()) ? all : "print answered " + length + " for " + all;
    }

    /** The polynomial without a change of the output: each term's exponents and coefficient. */
    String terms(int k) {
        StringBuilder all = new StringBuilder();
        all.append(about(k, 0)).append(" of degree ").append(about(k, 1)).append(':');
        for (int i = 0; !term(k, i, 4).equals(PolynomialDesk.NONE); i++) {
            for (int what = 0; what < 5; what++) {
                all.append(' ').append(term(k, i, what));
            }
            all.append(';');
        }
        return all.toString();
    }

    /** All that can be seen without a change: the fault, the polynomials, the output. */
    String seen() {
        StringBuilder all = new StringBuilder(verdict());
        for (int k = 0; k < 8; k++) {
            all.append(" | ").append(terms(k));
        }
        return all.append(" | ").append(outputText()).toString();
    }
}
