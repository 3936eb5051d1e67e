import java.util.function.Function;

/**
 * Tests of named cases. A name begins with the promise's number, or with the word of the document's
 * section "Terms" that the case rests on.
 */
abstract class Cases extends Checks {
    static final int NONE = PolynomialDesk.NONE;
    static final int LEAST = Integer.MIN_VALUE;
    static final int GREATEST = Integer.MAX_VALUE;
    /** Both sides of 0 .. 7, and the ends of int; what is no polynomial. */
    static final int[] NO_POLYNOMIALS = {LEAST, -8, -1, 8, 9, GREATEST};
    static final int[] HIGHEST = {30, 12, 7, 5};

    private String name = "";
    private int cases = 0;

    final void of(String caseName, Runnable body) {
        name = caseName;
        cases++;
        int before = made();
        body.run();
        if (made() == before) {
            is("the answers looked at", 0, "at least one");
        }
    }

    final void is(String what, Object got, Object want) {
        due(name + ": " + what, got, want);
    }

    final void endCases() {
        System.out.println(cases + " cases");
        end();
    }

    /**
     * P 11, N 3 and ORDER 1, a polynomial of HIGHEST degree and a 0 among the eight, an output, a
     * fault of the latest read, and a text in hand that has another meaning in every other field.
     */
    static Desk laden() {
        Desk desk = Desk.with(11, 3, 1, "x*z+y^2+1", "x^7", "0", "10*z", "x+y", "5", "y^2*z", "z^3+2");
        desk.print(0);
        desk.readText(2, "x+$");
        desk.take("12*x*z-y^2");
        return desk;
    }

    /** What of a laden desk can only be seen by changing it: its text and its field. */
    private void isStillLaden(Desk desk) {
        is("terms of the text that stays", desk.read(7), 2);
        is("the text, P and ORDER that stay", desk.printed(7), "x*z+10*y^2");
        is("the text behind it", desk.read(7), Outcome.ARGUMENT);
        is("the text behind it", desk.verdict(), "1@0");
        is("N that stays", desk.readText(7, "z^7+w"), Outcome.ARGUMENT);
        is("N that stays", desk.verdict(), "1@4");
    }

    /** The call answers this, and changes nothing at all. */
    final void stays(String caseName, Object want, Function<Desk, Object> call) {
        of(caseName, () -> {
            Desk desk = laden();
            String before = desk.seen();
            is("the call", call.apply(desk), want);
            is("what can be seen", desk.seen(), before);
            isStillLaden(desk);
        });
    }

    /** The call changes polynomial to alone, which is then printed like this. */
    final void changes(String caseName, int to, String want, Function<Desk, Object> call) {
        of(caseName, () -> {
            Desk desk = laden();
            String[] before = desk.seen().split(" \\| ");
            is("the call", call.apply(desk), Outcome.DONE);
            String[] after = desk.seen().split(" \\| ");
            for (int part = 0; part < before.length; part++) {
                if (part != to + 1) {
                    is("part " + part + " of what can be seen", after[part], before[part]);
                }
            }
            is("polynomial " + to, desk.printed(to), want);
            isStillLaden(desk);
        });
    }

    static String nth(String word, int number) {
        String told = number == LEAST ? "the least int" : number == GREATEST ? "the greatest int" : "" + number;
        return word + " " + told;
    }
}
