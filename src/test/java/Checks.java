/** What the tests share: counting wrong answers, and ways to talk to a desk in texts. */
final class Checks {
    /** One call that may throw. */
    interface Call {
        Object answer();
    }

    private int wrong = 0;
    private int made = 0;

    void due(String what, Object got, Object want) {
        made++;
        if (!want.equals(got)) {
            wrong++;
            System.out.println(what + " answered " + got + ", due is " + want);
        }
    }

    /** Ends the program, with exit code 1 if an answer was wrong or none was looked at. */
    void end() {
        System.out.println(made + " answers, " + wrong + " not as due");
        System.exit(wrong == 0 && made > 0 ? 0 : 1);
    }

    /** The answer, or throws.NAME if the call throws. */
    static Object outcome(Call call) {
        try {
            return call.answer();
        } catch (RuntimeException e) {
            return "throws." + e.getClass().getSimpleName();
        }
    }

    static Object outcome(Runnable call) {
        return outcome(() -> {
            call.run();
            return "done";
        });
    }

    /** Puts the text, up to 8 characters a call; whether all of it came in. */
    static boolean putText(PolynomialDesk desk, String text) {
        boolean all = true;
        for (int begin = 0; begin < text.length(); begin += 8) {
            String part = text.substring(begin, Math.min(text.length(), begin + 8));
            long bytes = 0;
            for (int i = 0; i < part.length(); i++) {
                bytes = bytes << 8 | part.charAt(i);
            }
            all &= desk.put(bytes, part.length());
        }
        return all;
    }

    static Object readText(PolynomialDesk desk, int k, String text) {
        if (!putText(desk, text)) {
            return "the text was not taken";
        }
        return outcome(() -> desk.read(k));
    }

    /** The whole output, up to the first byte that there is none of. */
    static String output(PolynomialDesk desk) {
        StringBuilder all = new StringBuilder();
        for (int i = 0; i < 100000 && desk.output(i) != PolynomialDesk.NONE; i++) {
            all.append((char) desk.output(i));
        }
        return all.toString();
    }

    static String printed(PolynomialDesk desk, int k) {
        int length = desk.print(k);
        String all = output(desk);
        return length == all.length() ? all : "print answered " + length + " of " + all;
    }

    /** A new desk with this field and the texts as polynomials 0 on. */
    static PolynomialDesk desk(int p, int n, int order, String... texts) {
        PolynomialDesk desk = new PolynomialDesk();
        desk.field(p, n, order);
        for (int k = 0; k < texts.length; k++) {
            Object answer = readText(desk, k, texts[k]);
            if (!(answer instanceof Integer)) {
                throw new IllegalStateException(texts[k] + ": " + answer);
            }
        }
        return desk;
    }

    /** FAULT@PLACE of the text, or what it reads as. */
    static String verdict(int p, int n, String text) {
        PolynomialDesk desk = desk(p, n, 0, "5*x+3");
        Object answer = readText(desk, 0, text);
        if (answer instanceof Integer) {
            boolean clean = desk.fault(0) == 0 && desk.fault(1) == PolynomialDesk.NONE;
            return clean ? printed(desk, 0) : "read, but fault(0) is " + desk.fault(0);
        }
        boolean kept = printed(desk, 0).equals(printed(desk(p, n, 0, "5*x+3"), 0));
        boolean refused = answer.equals("throws.IllegalArgumentException");
        return kept && refused ? desk.fault(0) + "@" + desk.fault(1) : answer + ", kept: " + kept;
    }

    private static final int[] EDGES = {Integer.MIN_VALUE, -8, -1, 0, 1, 3, 7, 8, 9, 126, Integer.MAX_VALUE};

    /** Numbers that no call may stumble over. */
    static int[] edges() {
        return EDGES.clone();
    }
}
