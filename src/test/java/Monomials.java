import java.util.ArrayList;
import java.util.List;
import java.util.function.Predicate;

/** All monomials of a field in THE ORDER, and desks that hold every one of them. */
final class Monomials {
    private static final int TEXT_BYTES = 200;

    private Monomials() {
    }

    /** The greatest first. */
    static List<int[]> inOrder(int n, int order, int highest) {
        List<int[]> all = new ArrayList<>();
        int many = (int) Math.pow(highest + 1, n);
        for (int code = 0; code < many; code++) {
            int[] monomial = new int[4];
            int rest = code;
            for (int v = 0; v < n; v++) {
                monomial[v] = rest % (highest + 1);
                rest /= highest + 1;
            }
            if (degree(monomial) <= highest) {
                all.add(monomial);
            }
        }
        all.sort((a, b) -> isGreater(a, b, order) ? -1 : isGreater(b, a, order) ? 1 : 0);
        return all;
    }

    static int degree(int[] monomial) {
        return monomial[0] + monomial[1] + monomial[2] + monomial[3];
    }

    private static boolean isGreater(int[] a, int[] b, int order) {
        if (degree(a) != degree(b)) {
            return degree(a) > degree(b);
        }
        for (int step = 0; step < 4; step++) {
            int v = order == 0 ? 3 - step : step;
            if (a[v] != b[v]) {
                return order == 0 ? a[v] < b[v] : a[v] > b[v];
            }
        }
        return false;
    }

    static String text(int[] monomial) {
        List<String> factors = new ArrayList<>();
        for (int v = 0; v < 4; v++) {
            if (monomial[v] > 0) {
                factors.add("xyzw".charAt(v) + (monomial[v] > 1 ? "^" + monomial[v] : ""));
            }
        }
        return factors.isEmpty() ? "1" : String.join("*", factors);
    }

    /** Each monomial with P - 1 for coefficient, as text; this is PRINTED too, but for P 2 and the 1. */
    static String fullText(int p, int n, int order, int highest) {
        List<String> terms = new ArrayList<>();
        for (int[] monomial : inOrder(n, order, highest)) {
            String text = text(monomial);
            terms.add(text.equals("1") ? "" + (p - 1) : (p - 1) + "*" + text);
        }
        return String.join("+", terms);
    }

    /** A desk whose polynomial 0 has each monomial with P - 1 for coefficient; the others are 0. */
    static Desk full(int p, int n, int order, int highest) {
        Desk desk = Desk.with(p, n, order);
        Predicate<String> subtract = sum -> desk.readText(1, sum) instanceof Integer
            && desk.add(0, -1, 1, 0).equals(Outcome.DONE);
        StringBuilder sum = new StringBuilder();
        // The least first, so that the texts do not come in the order that is due.
        List<int[]> all = inOrder(n, order, highest);
        for (int i = all.size() - 1; i >= 0; i--) {
            String next = text(all.get(i));
            if (sum.length() + 1 + next.length() > TEXT_BYTES) {
                check(subtract.test(sum.toString()));
                sum.setLength(0);
            }
            sum.append(sum.length() == 0 ? "" : "+").append(next);
        }
        check(subtract.test(sum.toString()));
        check(desk.readText(1, "0").equals(0));
        return desk;
    }

    private static void check(boolean holds) {
        if (!holds) {
            throw new AssertionError("the full polynomial could not be made");
        }
    }
}
