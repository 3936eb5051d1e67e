import java.util.ArrayDeque;
import java.util.ArrayList;
import java.util.Comparator;
import java.util.Deque;
import java.util.HashMap;
import java.util.List;
import java.util.Map;

/**
 * The document's desk once more, written in another way so that it errs in other places: maps from
 * exponents to coefficients, sorted when asked, and a reader that goes byte by byte with a stack.
 */
final class Reference {
    /** A sum that stands open, and what of its latest term has been read. */
    private static final class Open {
        Map<List<Integer>, Long> sum = new HashMap<>();
        Map<List<Integer>, Long> product = null;
        int star = -1;
        long sign = 1;
    }

    private enum Wanted { SUM, FACTOR, POWER, ANYTHING_BEHIND, ANYTHING_BEHIND_POWER }

    private long p = 7;
    private int n = 2;
    private int order = 0;
    private String text = "";
    private String output = "";
    private int fault = 0;
    private int place = -1;
    private final List<Map<List<Integer>, Long>> polynomials = new ArrayList<>();

    Reference() {
        clear();
    }

    private void clear() {
        polynomials.clear();
        for (int k = 0; k < 8; k++) {
            polynomials.add(new HashMap<>());
        }
        output = "";
    }

    void field(int newP, int newN, int newOrder) {
        boolean prime = newP >= 2 && newP <= 32003 && java.math.BigInteger.valueOf(newP).isProbablePrime(50);
        if (!prime || newN < 1 || newN > 4 || newOrder < 0 || newOrder > 1) {
            throw new IllegalArgumentException();
        }
        p = newP;
        n = newN;
        order = newOrder;
        clear();
    }

    boolean put(long v, int count) {
        if (count < 0 || count > 8 || text.length() + count > 200) {
            return false;
        }
        for (int i = 8 - count; i < 8; i++) {
            text += (char) java.nio.ByteBuffer.allocate(8).putLong(v).get(i);
        }
        return true;
    }

    int read(int k) {
        check(k);
        fault = 0;
        place = -1;
        Map<List<Integer>, Long> meaning = meaningOf(text);
        text = "";
        if (meaning == null) {
            throw new IllegalArgumentException();
        }
        polynomials.set(k, meaning);
        return meaning.size();
    }

    int fault(int what) {
        return what == 0 ? fault : what == 1 ? place : -1;
    }

    void add(int a, int f, int b, int to) {
        check(a);
        check(b);
        check(to);
        polynomials.set(to, sum(polynomials.get(a), f, polynomials.get(b)));
    }

    void multiply(int a, int b, int to) {
        check(a);
        check(b);
        check(to);
        Map<List<Integer>, Long> product = product(polynomials.get(a), polynomials.get(b));
        if (degree(product) > highest()) {
            throw new IllegalStateException();
        }
        polynomials.set(to, product);
    }

    void derive(int a, int v, int to) {
        check(a);
        check(to);
        checkVariable(v);
        Map<List<Integer>, Long> made = new HashMap<>();
        polynomials.get(a).forEach((monomial, coefficient) -> {
            if (monomial.get(v) > 0) {
                List<Integer> lower = new ArrayList<>(monomial);
                lower.set(v, monomial.get(v) - 1);
                put(made, lower, coefficient * monomial.get(v));
            }
        });
        polynomials.set(to, made);
    }

    void set(int a, int v, int number, int to) {
        check(a);
        check(to);
        checkVariable(v);
        Map<List<Integer>, Long> made = new HashMap<>();
        polynomials.get(a).forEach((monomial, coefficient) -> {
            List<Integer> rest = new ArrayList<>(monomial);
            rest.set(v, 0);
            put(made, rest, coefficient * power(number, monomial.get(v)));
        });
        polynomials.set(to, made);
    }

    int value(int a, int x, int y, int z, int w) {
        check(a);
        int[] numbers = {x, y, z, w};
        long total = 0;
        for (Map.Entry<List<Integer>, Long> term : polynomials.get(a).entrySet()) {
            long product = term.getValue();
            for (int v = 0; v < 4; v++) {
                product = product * power(numbers[v], term.getKey().get(v)) % p;
            }
            total += product;
        }
        return (int) (total % p);
    }

    int about(int k, int what) {
        if (k < 0 || k > 7 || what < 0 || what > 1) {
            return -1;
        }
        return what == 0 ? polynomials.get(k).size() : degree(polynomials.get(k));
    }

    int term(int k, int i, int what) {
        if (k < 0 || k > 7 || i < 0 || i >= polynomials.get(k).size() || what < 0 || what > 4) {
            return -1;
        }
        List<Integer> monomial = sorted(k).get(i);
        return what == 4 ? polynomials.get(k).get(monomial).intValue() : monomial.get(what);
    }

    int print(int k) {
        check(k);
        List<String> terms = new ArrayList<>();
        for (List<Integer> monomial : sorted(k)) {
            List<String> factors = new ArrayList<>();
            long coefficient = polynomials.get(k).get(monomial);
            if (coefficient != 1 || degree(monomial) == 0) {
                factors.add("" + coefficient);
            }
            for (int v = 0; v < 4; v++) {
                if (monomial.get(v) > 0) {
                    factors.add("xyzw".charAt(v) + (monomial.get(v) > 1 ? "^" + monomial.get(v) : ""));
                }
            }
            terms.add(String.join("*", factors));
        }
        output = terms.isEmpty() ? "0" : String.join("+", terms);
        return output.length();
    }

    int output(int i) {
        return i < 0 || i >= output.length() ? -1 : output.charAt(i);
    }

    private static void check(int k) {
        if (k < 0 || k > 7) {
            throw new IndexOutOfBoundsException();
        }
    }

    private void checkVariable(int v) {
        if (v < 0 || v >= n) {
            throw new IndexOutOfBoundsException();
        }
    }

    private int highest() {
        return n == 1 ? 30 : n == 2 ? 12 : n == 3 ? 7 : 5;
    }

    private List<List<Integer>> sorted(int k) {
        List<List<Integer>> all = new ArrayList<>(polynomials.get(k).keySet());
        Comparator<List<Integer>> byDegree = Comparator.comparing(m -> degree(m));
        all.sort(byDegree.thenComparing(order == 0 ? Reference::byLast : Reference::byFirst).reversed());
        return all;
    }

    private static int byLast(List<Integer> a, List<Integer> b) {
        for (int v = 3; v >= 0; v--) {
            if (!a.get(v).equals(b.get(v))) {
                return a.get(v) < b.get(v) ? 1 : -1;
            }
        }
        return 0;
    }

    private static int byFirst(List<Integer> a, List<Integer> b) {
        for (int v = 0; v < 4; v++) {
            if (!a.get(v).equals(b.get(v))) {
                return a.get(v) > b.get(v) ? 1 : -1;
            }
        }
        return 0;
    }

    private static int degree(List<Integer> monomial) {
        return monomial.stream().mapToInt(Integer::intValue).sum();
    }

    private static int degree(Map<List<Integer>, Long> polynomial) {
        return polynomial.keySet().stream().mapToInt(Reference::degree).max().orElse(-1);
    }

    private long power(long number, int exponent) {
        java.math.BigInteger modulus = java.math.BigInteger.valueOf(p);
        return java.math.BigInteger.valueOf(number).mod(modulus).pow(exponent).mod(modulus).longValue();
    }

    private void put(Map<List<Integer>, Long> to, List<Integer> monomial, long coefficient) {
        long total = Math.floorMod(to.getOrDefault(monomial, 0L) + coefficient, p);
        if (total == 0) {
            to.remove(monomial);
        } else {
            to.put(monomial, total);
        }
    }

    private Map<List<Integer>, Long> sum(Map<List<Integer>, Long> a, long f, Map<List<Integer>, Long> b) {
        Map<List<Integer>, Long> made = new HashMap<>(a);
        b.forEach((monomial, coefficient) -> put(made, monomial, f * coefficient));
        return made;
    }

    private Map<List<Integer>, Long> product(Map<List<Integer>, Long> a, Map<List<Integer>, Long> b) {
        Map<List<Integer>, Long> made = new HashMap<>();
        a.forEach((m, c) -> b.forEach((o, d) -> {
            put(made, List.of(m.get(0) + o.get(0), m.get(1) + o.get(1), m.get(2) + o.get(2), m.get(3) + o.get(3)), c * d);
        }));
        return made;
    }

    private Map<List<Integer>, Long> number(long number) {
        Map<List<Integer>, Long> made = new HashMap<>();
        put(made, List.of(0, 0, 0, 0), number);
        return made;
    }

    private Map<List<Integer>, Long> refused(int kind, int where) {
        fault = kind;
        place = where;
        return null;
    }

    private static int digitsAt(String text, int at) {
        int end = at;
        while (end < text.length() && "0123456789".indexOf(text.charAt(end)) >= 0) {
            end++;
        }
        return end - at;
    }

    /** The polynomial, or null with fault and place. */
    private Map<List<Integer>, Long> meaningOf(String bytes) {
        Deque<Open> open = new ArrayDeque<>();
        open.push(new Open());
        Wanted wanted = Wanted.SUM;
        Map<List<Integer>, Long> latest = null;
        int caret = -1;
        for (int at = 0; at <= bytes.length(); at++) {
            char c = at < bytes.length() ? bytes.charAt(at) : '\n';
            int digits = digitsAt(bytes, at);
            if (c == ' ') {
                continue;
            }
            if (wanted == Wanted.POWER) {
                if (digits == 0) {
                    return refused(1, at);
                }
                if (digits > 2) {
                    return refused(4, at);
                }
                int exponent = Integer.parseInt(bytes.substring(at, at + digits));
                if (degree(latest) > 0 && degree(latest) * exponent > highest()) {
                    return refused(3, caret);
                }
                Map<List<Integer>, Long> made = number(1);
                for (int i = 0; i < exponent; i++) {
                    made = product(made, latest);
                }
                latest = made;
                at += digits - 1;
                wanted = Wanted.ANYTHING_BEHIND_POWER;
            } else if (wanted == Wanted.SUM || wanted == Wanted.FACTOR) {
                if (c == '-' && wanted == Wanted.SUM) {
                    open.peek().sign = -1;
                    wanted = Wanted.FACTOR;
                } else if (c == '(') {
                    if (open.size() == 21) {
                        return refused(2, at);
                    }
                    open.push(new Open());
                    wanted = Wanted.SUM;
                } else if (digits > 0) {
                    if (digits > 9) {
                        return refused(4, at);
                    }
                    latest = number(Long.parseLong(bytes.substring(at, at + digits)));
                    at += digits - 1;
                    wanted = Wanted.ANYTHING_BEHIND;
                } else if ("xyzw".substring(0, n).indexOf(c) >= 0) {
                    latest = new HashMap<>();
                    put(latest, List.of(c == 'x' ? 1 : 0, c == 'y' ? 1 : 0, c == 'z' ? 1 : 0, c == 'w' ? 1 : 0), 1);
                    wanted = Wanted.ANYTHING_BEHIND;
                } else {
                    return refused(1, at);
                }
            } else if (c == '^' && wanted == Wanted.ANYTHING_BEHIND) {
                caret = at;
                wanted = Wanted.POWER;
            } else {
                Open now = open.peek();
                now.product = now.product == null ? latest : product(now.product, latest);
                if (degree(now.product) > highest()) {
                    return refused(3, now.star);
                }
                if (c == '*') {
                    now.star = at;
                    wanted = Wanted.FACTOR;
                    continue;
                }
                now.sum = sum(now.sum, now.sign, now.product);
                now.product = null;
                if (c == '+' || c == '-') {
                    now.sign = c == '+' ? 1 : -1;
                    wanted = Wanted.FACTOR;
                } else if (c == ')' && open.size() > 1) {
                    latest = open.pop().sum;
                    wanted = Wanted.ANYTHING_BEHIND;
                } else {
                    return at == bytes.length() && open.size() == 1 ? now.sum : refused(1, at);
                }
            }
        }
        throw new AssertionError("the end was passed");
    }
}
