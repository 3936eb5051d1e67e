/** The promises one by one, by their numbers: ordinary inputs, the edges that are named, and wrong inputs. */
public final class PromiseTest {
    private static final int NONE = PolynomialDesk.NONE;
    private static final String INDEX = "throws.IndexOutOfBoundsException";
    private static final String ARGUMENT = "throws.IllegalArgumentException";
    private static final String STATE = "throws.IllegalStateException";
    private static final Checks checks = new Checks();

    public static void main(String[] args) {
        newObject();
        fieldKeepsAndClears();
        fieldRefuses();
        putTakesBytes();
        putRefuses();
        readMeans();
        readKeepsAndEmpties();
        faultsOutOfPlace();
        faultsOfDepth();
        faultsOfDegree();
        faultsOfDigits();
        faultOfTheLatestRead();
        adds();
        multiplies();
        derives();
        sets();
        values();
        abouts();
        terms();
        termsInOrder();
        prints();
        outputs();
        aliases();
        checks.end();
    }

    private static void due(String what, Object got, Object want) {
        checks.due(what, got, want);
    }

    private static void indexRefused(String what, Runnable call) {
        due(what, Checks.outcome(call), INDEX);
    }

    private static void newObject() {
        PolynomialDesk desk = new PolynomialDesk();
        due("1: NONE", PolynomialDesk.NONE, -1);
        due("1: no output", desk.output(0), NONE);
        due("1: no fault", desk.fault(0), 0);
        due("1: no place", desk.fault(1), NONE);
        for (int k = 0; k < 8; k++) {
            due("1: terms of " + k, desk.about(k, 0), 0);
            due("1: degree of " + k, desk.about(k, 1), NONE);
            due("1: printed " + k, Checks.printed(desk, k), "0");
        }
        due("1: no text", Checks.outcome(() -> desk.read(0)), ARGUMENT);
        due("1: no text, its place", desk.fault(1), 0);
        due("1: P 7, N 2, ORDER 0", Checks.readText(desk, 0, "8*x^12+7*x-y"), 2);
        due("1: P 7, N 2, ORDER 0", Checks.printed(desk, 0), "x^12+6*y");
        due("1: no third variable", Checks.readText(desk, 0, "z"), ARGUMENT);
        indexRefused("1: no third variable", () -> desk.derive(0, 2, 0));
    }

    private static void fieldKeepsAndClears() {
        PolynomialDesk desk = Checks.desk(7, 2, 0, "x+y", "x", "1", "2", "3", "4", "5", "6");
        desk.print(0);
        due("2: text", Checks.putText(desk, "10*z"), true);
        desk.field(11, 3, 1);
        due("2: no output", desk.output(0), NONE);
        for (int k = 0; k < 8; k++) {
            due("2: terms of " + k, desk.about(k, 0), 0);
        }
        due("2: the text stays", Checks.outcome(() -> desk.read(4)), 1);
        due("2: the text stays", Checks.printed(desk, 4), "10*z");
        due("2: a fault for the next", Checks.readText(desk, 0, "x+$"), ARGUMENT);
        desk.field(2, 1, 0);
        due("2: the fault stays", desk.fault(0), 1);
        due("2: the place stays", desk.fault(1), 2);
        for (int p : new int[] {2, 3, 5, 32003}) {
            due("2: P " + p, Checks.printed(Checks.desk(p, 1, 0, "0-x"), 0), p == 2 ? "x" : (p - 1) + "*x");
        }
    }

    private static void fieldRefuses() {
        PolynomialDesk desk = Checks.desk(11, 3, 1, "10*z+x");
        desk.print(0);
        int[] noPrimes = {Integer.MIN_VALUE, -7, -1, 0, 1, 4, 9, 15, 25, 121, 178 * 178, 179 * 173, 32001, 32004, 32009, Integer.MAX_VALUE};
        for (int p : noPrimes) {
            due("2: P " + p, Checks.outcome(() -> desk.field(p, 2, 0)), ARGUMENT);
        }
        for (int n : new int[] {Integer.MIN_VALUE, -1, 0, 5, Integer.MAX_VALUE}) {
            due("2: N " + n, Checks.outcome(() -> desk.field(7, n, 0)), ARGUMENT);
        }
        for (int order : new int[] {Integer.MIN_VALUE, -1, 2, Integer.MAX_VALUE}) {
            due("2: ORDER " + order, Checks.outcome(() -> desk.field(7, 2, order)), ARGUMENT);
        }
        due("2: refused, the output stays", Checks.output(desk), "x+10*z");
        due("2: refused, polynomials stay", Checks.printed(desk, 0), "x+10*z");
        due("2: refused, the field stays", Checks.readText(desk, 1, "11*x+12*z^7"), 1);
    }

    private static void putTakesBytes() {
        PolynomialDesk desk = new PolynomialDesk();
        due("3: n 3", desk.put(0x1122334455780000L | 'x' << 16 | '+' << 8 | '1', 3), true);
        due("3: n 0", desk.put(0x78787878L, 0), true);
        due("3: n 8", desk.put(0x202b202020202079L, 8), true);
        due("3: x+1 +     y", Checks.outcome(() -> desk.read(0)), 3);
        due("3: x+1 +     y", Checks.printed(desk, 0), "x+y+1");
        due("3: high bytes do not count", desk.put(-256L | 'x', 1), true);
        due("3: high bytes do not count", Checks.outcome(() -> desk.read(0)), 1);
        due("3: a byte above 127", desk.put(-1L, 1), true);
        due("3: a byte above 127", Checks.outcome(() -> desk.read(0)), ARGUMENT);
        due("3: a byte above 127, its place", desk.fault(1), 0);
    }

    private static void putRefuses() {
        PolynomialDesk desk = new PolynomialDesk();
        for (int n : new int[] {Integer.MIN_VALUE, -1, 9, 64, Integer.MAX_VALUE}) {
            due("3: n " + n, desk.put(0x78L, n), false);
        }
        due("3: refused, none came", Checks.outcome(() -> desk.read(0)), ARGUMENT);
        due("3: 196 bytes", Checks.putText(desk, " ".repeat(195) + "x"), true);
        due("3: 201 bytes", desk.put(0x2b2b2b2b79L, 5), false);
        due("3: 204 bytes", desk.put(0x2b2b2b2b2b2b2b79L, 8), false);
        due("3: 200 bytes", desk.put(0x2020202bL, 4), true);
        due("3: 200 bytes and none", desk.put(0x79L, 0), true);
        due("3: 201 bytes", desk.put(0x79L, 1), false);
        due("3: 200 bytes read", Checks.outcome(() -> desk.read(0)), ARGUMENT);
        due("3: at the end of 200 bytes", desk.fault(1), 200);
        due("3: empty again", Checks.putText(desk, "y".repeat(200)), true);
    }

    private static void reads(int p, int n, String text, String want) {
        due("4: " + text + " mod " + p, Checks.verdict(p, n, text), want);
    }

    private static void readMeans() {
        reads(7, 2, "x", "x");
        reads(7, 2, "  x  ", "x");
        reads(7, 2, "-x", "6*x");
        reads(7, 2, " - x ^ 2 * y + 3 * ( x - y ) ^ 02 ", "6*x^2*y+3*x^2+x*y+3*y^2");
        reads(7, 2, "-2^2", "3");
        reads(7, 2, "(-2)^2", "4");
        reads(7, 2, "1-2-3", "3");
        reads(7, 2, "1-(2-3)", "2");
        reads(7, 2, "-x+x", "0");
        reads(7, 2, "7*x", "0");
        reads(7, 2, "0^0", "1");
        reads(7, 2, "(x-x)^00", "1");
        reads(7, 2, "0^5", "0");
        reads(7, 2, "x^0", "1");
        reads(7, 2, "(x+y)^7", "x^7+y^7");
        reads(7, 2, "((x))*(((y)))", "x*y");
        reads(32003, 1, "999999999", String.valueOf(999999999 % 32003));
        reads(32003, 1, "000000001", "1");
        reads(32003, 1, "32002*32002*x", "x");
        reads(32003, 1, "2^99", "" + java.math.BigInteger.TWO.pow(99).mod(java.math.BigInteger.valueOf(32003)));
        reads(2, 4, "(x+y+z+w+1)^2", "x^2+y^2+z^2+w^2+1");
        reads(5, 4, "w*z*y*x*x", "x^2*y*z*w");
        PolynomialDesk desk = new PolynomialDesk();
        for (int k = 0; k < 8; k++) {
            due("4: polynomial " + k, Checks.readText(desk, k, "x^2+x*y+" + k), k == 0 || k == 7 ? 2 : 3);
        }
        for (int k = 0; k < 8; k++) {
            due("4: polynomial " + k, desk.value(k, 0, 0, 0, 0), k % 7);
        }
    }

    private static void readKeepsAndEmpties() {
        PolynomialDesk desk = Checks.desk(7, 2, 0, "x+1");
        due("4: text", Checks.putText(desk, "x*y+2"), true);
        for (int k : new int[] {Integer.MIN_VALUE, -1, 8, Integer.MAX_VALUE}) {
            due("4: read " + k, Checks.outcome(() -> desk.read(k)), INDEX);
        }
        due("4: the text stays", Checks.outcome(() -> desk.read(1)), 2);
        due("4: the text is empty then", Checks.outcome(() -> desk.read(0)), ARGUMENT);
        due("4: the polynomial stays", Checks.printed(desk, 0), "x+1");
        due("4: a fault", Checks.readText(desk, 0, "y+y*"), ARGUMENT);
        due("4: the polynomial stays", Checks.printed(desk, 0), "x+1");
        due("4: the text is empty after a fault", Checks.readText(desk, 0, "y"), 1);
        due("4: read anew", Checks.printed(desk, 0), "y");
    }

    private static void faulty(int n, String text, int kind, int place) {
        due("5: '" + text + "' with N " + n, Checks.verdict(7, n, text), kind + "@" + place);
    }

    private static void faultsOutOfPlace() {
        faulty(2, "", 1, 0);
        faulty(2, "   ", 1, 3);
        faulty(2, "-", 1, 1);
        faulty(2, "+x", 1, 0);
        faulty(2, "--x", 1, 1);
        faulty(2, "x+-y", 1, 2);
        faulty(2, "x*-y", 1, 2);
        faulty(2, "x+", 1, 2);
        faulty(2, "x*  ", 1, 4);
        faulty(2, "x^", 1, 2);
        faulty(2, "x^ y", 1, 3);
        faulty(2, "x^-1", 1, 2);
        faulty(2, "x^(2)", 1, 2);
        faulty(2, "x^2^2", 1, 3);
        faulty(2, "x^2 2", 1, 4);
        faulty(2, "x y", 1, 2);
        faulty(2, "2x", 1, 1);
        faulty(2, "2 3", 1, 2);
        faulty(2, "x(y)", 1, 1);
        faulty(2, "()", 1, 1);
        faulty(2, "(x", 1, 2);
        faulty(2, "(x+y))", 1, 5);
        faulty(2, ")", 1, 0);
        faulty(2, "X", 1, 0);
        faulty(2, "x\ty", 1, 1);
        faulty(2, "x+v", 1, 2);
        faulty(1, "x+y", 1, 2);
        faulty(2, "x+z", 1, 2);
        faulty(3, "x+w", 1, 2);
        faulty(2, "x$*y+$", 1, 1);
    }

    private static void faultsOfDepth() {
        String open = "(".repeat(20);
        String close = ")".repeat(20);
        reads(7, 2, open + "x" + close, "x");
        reads(7, 2, open + "x" + close + "*" + open + "y" + close, "x*y");
        faulty(2, open + "(x)" + close, 2, 20);
        faulty(2, "x+ " + open + "y*(", 2, 25);
        faulty(2, open + "x(", 1, 21);
        faulty(2, open + "x^(", 1, 22);
        faulty(2, "(".repeat(200), 2, 20);
        reads(7, 2, "(x)+".repeat(30) + "0", "2*x");
    }

    private static void faultsOfDegree() {
        int[] highest = {30, 12, 7, 5};
        for (int n = 1; n <= 4; n++) {
            int h = highest[n - 1];
            reads(7, n, "x^" + h, "x^" + h);
            reads(7, n, "x^" + (h - 1) + "*x", "x^" + h);
            reads(7, n, "x*x^" + (h - 1), "x^" + h);
            faulty(n, "x^" + (h + 1), 3, 1);
            faulty(n, "(x^" + h + ")*x+$", 3, 4 + (h > 9 ? 2 : 1));
            faulty(n, "x^" + h + "  *  (x+1)  ", 3, 4 + (h > 9 ? 2 : 1));
        }
        faulty(2, "x^99", 3, 1);
        faulty(2, "(x^2+1) ^ 7 $", 3, 8);
        faulty(2, "x^12*y $", 3, 4);
        faulty(2, "x^12*y^1^", 3, 4);
        reads(7, 2, "x^12*y ^ 0", "x^12");
        faulty(2, "x^12*y ^ $", 1, 9);
        faulty(2, "x^12*y^13", 3, 6);
        faulty(2, "x^12*y^100", 4, 7);
        faulty(2, "x^12*(y+$)", 1, 8);
        faulty(2, "x^12*(y)", 3, 4);
        faulty(2, "x^12*3*y*4", 3, 6);
        faulty(2, "x*x^12*0", 3, 1);
        reads(7, 2, "0*x^12*y", "0");
        reads(7, 2, "x^12*7*y", "0");
        reads(7, 2, "x^12*(y-y)", "0");
        reads(7, 2, "(x^5-x^5)^99", "0");
        reads(7, 2, "(x^5-x^5+2)^99", "1");
        reads(7, 2, "(7*x^12+x)^12", "x^12");
        reads(7, 2, "x^12+y^12", "x^12+y^12");
    }

    private static void faultsOfDigits() {
        faulty(2, "1234567890", 4, 0);
        faulty(2, "x + 0000000000$", 4, 4);
        faulty(2, "x^100", 4, 2);
        faulty(2, "x ^  000", 4, 5);
        faulty(2, "2^123456789", 4, 2);
        faulty(2, "x^13 0", 3, 1);
        reads(7, 2, "123456789", String.valueOf(123456789 % 7));
    }

    private static void faultOfTheLatestRead() {
        PolynomialDesk desk = Checks.desk(7, 2, 0, "x+1");
        due("5: without", desk.fault(0), 0);
        due("5: without", desk.fault(1), NONE);
        due("5: a fault", Checks.readText(desk, 0, "x^13"), ARGUMENT);
        due("5: refused for k", Checks.readText(desk, 8, "x"), INDEX);
        due("5: refused for k, the fault stays", desk.fault(0), 3);
        due("5: refused for k, the place stays", desk.fault(1), 1);
        desk.add(0, 1, 0, 0);
        desk.print(0);
        due("5: other calls leave it", desk.fault(0), 3);
        for (int what : new int[] {Integer.MIN_VALUE, -1, 2, Integer.MAX_VALUE}) {
            due("5: fault " + what, desk.fault(what), NONE);
        }
        due("5: a read without", Checks.outcome(() -> desk.read(0)), 1);
        due("5: a read without", desk.fault(0), 0);
        due("5: a read without", desk.fault(1), NONE);
    }

    private static void adds() {
        PolynomialDesk desk = Checks.desk(32003, 3, 0, "x^2+2*y+5", "x^2-z+1");
        desk.add(0, 1, 1, 2);
        due("6: f 1", Checks.printed(desk, 2), "2*x^2+2*y+32002*z+6");
        desk.add(0, -1, 1, 2);
        due("6: f -1", Checks.printed(desk, 2), "2*y+z+4");
        desk.add(0, 0, 1, 2);
        due("6: f 0", Checks.printed(desk, 2), "x^2+2*y+5");
        desk.add(0, 32003 * 2, 1, 2);
        due("6: f 2 P", Checks.printed(desk, 2), "x^2+2*y+5");
        desk.add(3, 32002, 1, 2);
        due("6: f P - 1", Checks.printed(desk, 2), "32002*x^2+z+32002");
        desk.add(3, Integer.MIN_VALUE, 1, 2);
        int least = Math.floorMod(Integer.MIN_VALUE, 32003);
        due("6: f least", desk.term(2, 0, 4), least);
        for (int k : new int[] {Integer.MIN_VALUE, -1, 8, Integer.MAX_VALUE}) {
            indexRefused("6: a " + k, () -> desk.add(k, 1, 1, 2));
            indexRefused("6: b " + k, () -> desk.add(0, 1, k, 2));
            indexRefused("6: to " + k, () -> desk.add(0, 1, 1, k));
        }
        due("6: refused, it stays", desk.term(2, 0, 4), least);
    }

    private static void multiplies() {
        PolynomialDesk desk = Checks.desk(7, 2, 0, "x^6+y", "x^6-y", "x^7", "0", "3");
        desk.multiply(0, 1, 5);
        due("7: product", Checks.printed(desk, 5), "x^12+6*y^2");
        due("7: too high", Checks.outcome(() -> desk.multiply(0, 2, 5)), STATE);
        due("7: too high, it stays", Checks.printed(desk, 5), "x^12+6*y^2");
        desk.multiply(5, 4, 6);
        due("7: by a number", Checks.printed(desk, 6), "3*x^12+4*y^2");
        desk.multiply(5, 3, 6);
        due("7: by 0", Checks.printed(desk, 6), "0");
        for (int k : new int[] {Integer.MIN_VALUE, -1, 8, Integer.MAX_VALUE}) {
            indexRefused("7: a " + k, () -> desk.multiply(k, 1, 2));
            indexRefused("7: b " + k, () -> desk.multiply(0, k, 2));
            indexRefused("7: to " + k, () -> desk.multiply(0, 1, k));
            indexRefused("7: too high, and to " + k, () -> desk.multiply(2, 2, k));
        }
        PolynomialDesk four = Checks.desk(32003, 4, 1, "(x+y+z+w+1)^2", "(x+y+z+w+1)^3", "(x+y+z+w+1)^5");
        four.multiply(0, 1, 3);
        four.add(3, -1, 2, 4);
        due("7: all monomials", four.about(3, 0), 126);
        due("7: as its power", four.about(4, 0), 0);
        due("7: degree 6", Checks.outcome(() -> four.multiply(1, 1, 3)), STATE);
    }

    private static void derives() {
        PolynomialDesk desk = Checks.desk(7, 3, 0, "x^7+x^3*y^2+5*x+y+4");
        desk.derive(0, 0, 1);
        due("8: by x", Checks.printed(desk, 1), "3*x^2*y^2+5");
        desk.derive(0, 1, 1);
        due("8: by y", Checks.printed(desk, 1), "2*x^3*y+1");
        desk.derive(0, 2, 1);
        due("8: by z", Checks.printed(desk, 1), "0");
        desk.derive(0, 1, 1);
        for (int v : new int[] {Integer.MIN_VALUE, -1, 3, 4, Integer.MAX_VALUE}) {
            indexRefused("8: v " + v, () -> desk.derive(0, v, 1));
        }
        for (int k : new int[] {Integer.MIN_VALUE, -1, 8, Integer.MAX_VALUE}) {
            indexRefused("8: a " + k, () -> desk.derive(k, 0, 1));
            indexRefused("8: to " + k, () -> desk.derive(0, 0, k));
        }
        due("8: refused, it stays", Checks.printed(desk, 1), "2*x^3*y+1");
    }

    private static void sets() {
        PolynomialDesk desk = Checks.desk(7, 3, 0, "x^2*y+3*y+x*z+2");
        desk.set(0, 0, 2, 1);
        due("9: x 2", Checks.printed(desk, 1), "2*z+2");
        desk.set(0, 0, 0, 1);
        due("9: x 0", Checks.printed(desk, 1), "3*y+2");
        desk.set(0, 1, -1, 1);
        due("9: y -1", Checks.printed(desk, 1), "6*x^2+x*z+6");
        desk.set(0, 2, Integer.MIN_VALUE, 1);
        due("9: z least", Checks.printed(desk, 1), "x^2*y+5*x+3*y+2");
        for (int v : new int[] {Integer.MIN_VALUE, -1, 3, 4, Integer.MAX_VALUE}) {
            indexRefused("9: v " + v, () -> desk.set(0, v, 1, 1));
        }
        for (int k : new int[] {Integer.MIN_VALUE, -1, 8, Integer.MAX_VALUE}) {
            indexRefused("9: a " + k, () -> desk.set(k, 0, 1, 1));
            indexRefused("9: to " + k, () -> desk.set(0, 0, 1, k));
        }
        due("9: refused, it stays", Checks.printed(desk, 1), "x^2*y+5*x+3*y+2");
    }

    private static void values() {
        PolynomialDesk desk = Checks.desk(101, 2, 0, "x^3-2*x*y+7");
        due("10: 3, 5", desk.value(0, 3, 5, 9, 9), 4);
        due("10: -1, 2", desk.value(0, -1, 2, 0, 0), 10);
        due("10: 0, 0", desk.value(0, 0, 0, 1, 1), 7);
        due("10: 104, -96", desk.value(0, 104, -96, 5, 5), 4);
        due("10: of 0", desk.value(1, 3, 5, 9, 9), 0);
        PolynomialDesk four = Checks.desk(32003, 4, 0, "x+10*y+100*z+1000*w");
        due("10: four", four.value(0, 1, 2, 3, 4), 4321);
        due("10: greatest", four.value(0, 32002, 0, 0, 0), 32002);
        due("10: least", four.value(0, Integer.MIN_VALUE, 0, 0, 0), Math.floorMod(Integer.MIN_VALUE, 32003));
        for (int k : new int[] {Integer.MIN_VALUE, -1, 8, Integer.MAX_VALUE}) {
            due("10: a " + k, Checks.outcome(() -> desk.value(k, 1, 1, 1, 1)), INDEX);
        }
    }

    private static void abouts() {
        PolynomialDesk desk = Checks.desk(7, 2, 0, "x^3*y+y^3+1", "5");
        due("11: terms", desk.about(0, 0), 3);
        due("11: degree", desk.about(0, 1), 4);
        due("11: a number's degree", desk.about(1, 1), 0);
        due("11: terms of nothing", desk.about(2, 0), 0);
        due("11: degree of nothing", desk.about(2, 1), NONE);
        for (int wrong : new int[] {Integer.MIN_VALUE, -1, 8, Integer.MAX_VALUE}) {
            due("11: what " + wrong, desk.about(0, wrong), NONE);
            due("11: k " + wrong, desk.about(wrong, 0), NONE);
        }
        due("11: what 2", desk.about(0, 2), NONE);
    }

    private static void terms() {
        PolynomialDesk desk = Checks.desk(7, 2, 0, "3*x*y^2+4");
        int[] first = {1, 2, 0, 0, 3};
        int[] second = {0, 0, 0, 0, 4};
        for (int what = 0; what < 5; what++) {
            due("12: first " + what, desk.term(0, 0, what), first[what]);
            due("12: second " + what, desk.term(0, 1, what), second[what]);
            due("12: third " + what, desk.term(0, 2, what), NONE);
            due("12: of nothing " + what, desk.term(1, 0, what), NONE);
        }
        for (int wrong : new int[] {Integer.MIN_VALUE, -1, 8, Integer.MAX_VALUE}) {
            due("12: what " + wrong, desk.term(0, 0, wrong), NONE);
            due("12: i " + wrong, desk.term(0, wrong, 0), NONE);
            due("12: k " + wrong, desk.term(wrong, 0, 0), NONE);
        }
        due("12: what 5", desk.term(0, 0, 5), NONE);
    }

    private static void termsInOrder() {
        String square = "(x+y+z)^2";
        due("12: ORDER 0", Checks.printed(Checks.desk(2003, 3, 0, square), 0), "x^2+2*x*y+y^2+2*x*z+2*y*z+z^2");
        due("12: ORDER 1", Checks.printed(Checks.desk(2003, 3, 1, square), 0), "x^2+2*x*y+2*x*z+y^2+2*y*z+z^2");
        String mixed = "1+w+z+y+x+x*w+y*z+z^2+y^3";
        due("12: ORDER 0", Checks.printed(Checks.desk(7, 4, 0, mixed), 0), "y^3+y*z+z^2+x*w+x+y+z+w+1");
        due("12: ORDER 1", Checks.printed(Checks.desk(7, 4, 1, mixed), 0), "y^3+x*w+y*z+z^2+x+y+z+w+1");
        due("12: degree first", Checks.printed(Checks.desk(7, 2, 1, "x^2+y^3"), 0), "y^3+x^2");
    }

    private static void prints() {
        PolynomialDesk desk = Checks.desk(32003, 4, 0, "1", "2", "x", "2*x", "-x*y^2*w+10*z-1", "x*y*z*w^2", "x-x+20030");
        String[] want = {"1", "2", "x", "2*x", "32002*x*y^2*w+10*z+32002", "x*y*z*w^2", "20030", "0"};
        for (int k = 0; k < 8; k++) {
            due("13: polynomial " + k, Checks.printed(desk, k), want[k]);
        }
        for (int k : new int[] {Integer.MIN_VALUE, -1, 8, Integer.MAX_VALUE}) {
            due("13: k " + k, Checks.outcome(() -> desk.print(k)), INDEX);
        }
        due("13: refused, the output stays", Checks.output(desk), "0");
        for (int n = 1; n <= 4; n++) {
            int[] highest = {30, 12, 7, 5};
            PolynomialDesk full = Checks.desk(32003, n, 0, "-31999*(" + "x+y+z+w".substring(0, 2 * n - 1) + "+1)^" + highest[n - 1]);
            String all = Checks.printed(full, 0);
            due("13: terms of all with N " + n, all.split("\\+").length, new int[] {31, 91, 120, 126}[n - 1]);
            due("13: the last of all with N " + n, all.endsWith("+4"), true);
        }
        String ten = Checks.printed(Checks.desk(7, 1, 0, "x^30+x^10+x^9+x^2"), 0);
        due("13: exponents of two digits", ten, "x^30+x^10+x^9+x^2");
    }

    private static void outputs() {
        PolynomialDesk desk = Checks.desk(7, 2, 0, "x^2+1", "y");
        due("14: none yet", desk.output(0), NONE);
        due("14: length", desk.print(0), 5);
        due("14: byte 0", desk.output(0), (int) 'x');
        due("14: byte 4", desk.output(4), (int) '1');
        for (int i : new int[] {Integer.MIN_VALUE, -1, 5, 200, Integer.MAX_VALUE}) {
            due("14: byte " + i, desk.output(i), NONE);
        }
        desk.add(1, 1, 1, 0);
        due("14: it stays when the polynomial changes", Checks.output(desk), "x^2+1");
        desk.print(1);
        due("14: a shorter one", Checks.output(desk), "y");
    }

    private static void aliases() {
        PolynomialDesk desk = Checks.desk(101, 2, 0, "x+2*y");
        desk.multiply(0, 0, 0);
        due("a polynomial times itself", Checks.printed(desk, 0), "x^2+4*x*y+4*y^2");
        desk.add(0, 2, 0, 0);
        due("a polynomial with itself", Checks.printed(desk, 0), "3*x^2+12*x*y+12*y^2");
        desk.derive(0, 1, 0);
        due("a polynomial's own derivative", Checks.printed(desk, 0), "12*x+24*y");
        desk.set(0, 0, 2, 0);
        due("a polynomial with its own number", Checks.printed(desk, 0), "24*y+24");
    }
}
