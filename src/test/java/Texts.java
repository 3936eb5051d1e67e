import java.util.Random;

/** Texts of polynomials, now and then spoilt. */
final class Texts {
    private static final String SPOILERS = " +-*^()xyzw0123456789$X\t\u00ff";

    private final Random random;
    private final int variables;

    Texts(Random random, int variables) {
        this.random = random;
        this.variables = variables;
    }

    String text() {
        StringBuilder text = new StringBuilder();
        if (random.nextInt(12) == 0) {
            deepSum(text);
        } else {
            sum(text, random.nextInt(4));
        }
        if (random.nextInt(3) == 0) {
            spoil(text);
        }
        return text.length() <= 200 ? text.toString() : text.substring(0, random.nextInt(201));
    }

    private void spoil(StringBuilder text) {
        for (int times = random.nextInt(3); times >= 0; times--) {
            int at = random.nextInt(text.length() + 1);
            char spoiler = SPOILERS.charAt(random.nextInt(SPOILERS.length()));
            switch (random.nextInt(3)) {
                case 0 -> text.insert(at, spoiler);
                case 1 -> text.setLength(at);
                default -> {
                    if (at < text.length()) {
                        text.setCharAt(at, spoiler);
                    }
                }
            }
        }
    }

    private void deepSum(StringBuilder text) {
        int depth = 18 + random.nextInt(5);
        int inside = random.nextInt(2);
        for (int i = 0; i < depth; i++) {
            text.append(random.nextInt(6) == 0 ? "-(" : random.nextInt(12) == 0 ? "2*(" : "(");
        }
        sum(text, inside);
        for (int i = 0; i < depth; i++) {
            text.append(random.nextInt(12) == 0 ? ")^1" : random.nextInt(12) == 0 ? ")*2" : ")");
        }
    }

    private void space(StringBuilder text) {
        for (int i = random.nextInt(12); i > 9; i--) {
            text.append(' ');
        }
    }

    private void sum(StringBuilder text, int depth) {
        space(text);
        if (random.nextInt(4) == 0) {
            text.append('-');
        }
        term(text, depth);
        for (int i = random.nextInt(4); i > 0; i--) {
            text.append(random.nextBoolean() ? '+' : '-');
            term(text, depth);
        }
    }

    private void term(StringBuilder text, int depth) {
        factor(text, depth);
        for (int i = random.nextInt(3); i > 0; i--) {
            text.append('*');
            factor(text, depth);
        }
    }

    private void factor(StringBuilder text, int depth) {
        space(text);
        int kind = random.nextInt(6);
        if (kind == 0) {
            number(text, random.nextInt(30) == 0 ? 10 : random.nextInt(4) == 0 ? 9 : 2);
        } else if (kind < 3 && depth > 0) {
            text.append('(');
            sum(text, depth - 1);
            text.append(')');
        } else {
            text.append("xyzw".charAt(random.nextInt(random.nextInt(60) == 0 ? 4 : variables)));
        }
        space(text);
        if (random.nextInt(4) == 0) {
            text.append('^');
            space(text);
            if (random.nextInt(40) == 0) {
                number(text, 3);
            } else {
                text.append(random.nextInt(8) == 0 ? random.nextInt(100) : random.nextInt(4));
            }
            space(text);
        }
    }

    private void number(StringBuilder text, int mostDigits) {
        int digits = mostDigits > 9 ? mostDigits : 1 + random.nextInt(mostDigits);
        for (int i = 0; i < digits; i++) {
            text.append((char) ('0' + random.nextInt(10)));
        }
    }
}
