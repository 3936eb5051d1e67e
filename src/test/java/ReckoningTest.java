import java.util.List;

/** Promises 6 to 10: sums, products, derivatives, numbers for variables, and values. */
public final class ReckoningTest extends Cases {
    private static final int[] NO_VARIABLES_OF_THREE = {LEAST, -3, -1, 3, 4, GREATEST};
    private static final int BIG = 32003;

    public static void main(String[] args) {
        ReckoningTest test = new ReckoningTest();
        test.addTakesIndexes();
        test.addRefuses();
        test.addTakesFactors();
        test.addCancels();
        test.addOntoItself();
        test.multiplyTakesIndexes();
        test.multiplyRefusesIndexes();
        test.multiplyRefusesDegrees();
        test.multiplyWithEachN();
        test.multiplyByZero();
        test.multiplyOntoItself();
        test.deriveTakesIndexes();
        test.deriveRefuses();
        test.deriveMeans();
        test.setTakesIndexes();
        test.setRefuses();
        test.setTakesNumbers();
        test.setMeans();
        test.valueTakesIndexes();
        test.valueTakesNumbers();
        test.valueOfVariablesBeyondN();
        test.allMonomials();
        test.endCases();
    }

    /** What a call on these texts leaves as polynomial to. */
    private interface Work {
        Object on(Desk desk);
    }

    private void makes(String name, Desk desk, Work work, int to, String want) {
        of(name, () -> {
            is("the call", work.on(desk), Outcome.DONE);
            is("polynomial " + to, desk.printed(to), want);
        });
    }

    private void addTakesIndexes() {
        changes("6 add, a 0", 2, "x*z+y^2+5*x+5*y+1", desk -> desk.add(0, 5, 4, 2));
        changes("6 add, a 7", 2, "z^3+7", desk -> desk.add(7, 1, 5, 2));
        changes("6 add, b 0", 2, "3*x*z+3*y^2+8", desk -> desk.add(5, 3, 0, 2));
        changes("6 add, b 7", 2, "2*z^3+9", desk -> desk.add(5, 2, 7, 2));
        changes("6 add, to 0", 0, "x+y+5", desk -> desk.add(4, 1, 5, 0));
        changes("6 add, to 7", 7, "x+y+10", desk -> desk.add(4, 2, 5, 7));
        changes("6 add, to the one of HIGHEST degree", 1, "x+y+5", desk -> desk.add(4, 1, 5, 1));
    }

    private void addRefuses() {
        for (int k : NO_POLYNOMIALS) {
            stays("6 add, " + nth("a", k) + " is refused", Outcome.INDEX, desk -> desk.add(k, 1, 4, 0));
            stays("6 add, " + nth("b", k) + " is refused", Outcome.INDEX, desk -> desk.add(4, 1, k, 0));
            stays("6 add, " + nth("b", k) + " is refused with f 0 too", Outcome.INDEX, desk -> desk.add(4, 0, k, 0));
            stays("6 add, " + nth("to", k) + " is refused", Outcome.INDEX, desk -> desk.add(4, 1, 4, k));
            stays("6 add, " + nth("all of them", k) + " are refused", Outcome.INDEX, desk -> desk.add(k, k, k, k));
        }
    }

    private void addTakesFactors() {
        for (int p : new int[] {2, 3, 7, 31991, BIG}) {
            int[] factors = {LEAST, LEAST + 1, -p - 1, -p, -p + 1, -1, 0, 1, p - 1, p, p + 1, GREATEST - 1, GREATEST};
            for (int f : factors) {
                of("6 add, " + nth("f", f) + " with P " + p, () -> {
                    Desk desk = Desk.with(p, 2, 0, "y", "x+" + (p - 1));
                    int times = Math.floorMod(f, p);
                    is("add", desk.add(0, f, 1, 2), Outcome.DONE);
                    is("terms", desk.about(2, 0), times == 0 ? 1 : 3);
                    is("x's coefficient", desk.term(2, 0, 4), times == 0 ? 1 : times);
                    is("the number", desk.value(2, 0, 0, 0, 0), Math.floorMod(-(long) f, p));
                });
            }
        }
        of("6 add, the greatest coefficients: P - 1 and (P - 1) * (P - 1)", () -> {
            Desk desk = Desk.with(BIG, 1, 0, "32002*x", "32002*x");
            is("P - 1", desk.add(0, 32002, 1, 2), Outcome.DONE);
            is("P - 1", desk.printed(2), "0");
            is("P - 2", desk.add(0, 32001, 1, 2), Outcome.DONE);
            is("P - 2", desk.printed(2), "x");
        });
    }

    private void addCancels() {
        Desk desk = Desk.with(7, 2, 0, "x^12+y", "x^12-y", "3*x");
        makes("6 add, what cancels is no term", desk, d -> d.add(0, -1, 1, 5), 5, "2*y");
        of("6 add, the degree without what cancels", () -> is("degree", desk.about(5, 1), 1));
        makes("6 add, all cancels", desk, d -> d.add(0, -1, 0, 5), 5, "0");
        of("6 add, the degree when all cancels", () -> is("degree", desk.about(5, 1), NONE));
        makes("6 add, a sum that comes to P", desk, d -> d.add(2, 6, 2, 5), 5, "0");
        makes("6 add, 0 and 0", desk, d -> d.add(6, 3, 7, 5), 5, "0");
        makes("6 add, 0 and another", desk, d -> d.add(6, 3, 2, 5), 5, "2*x");
        makes("6 add, another and 0", desk, d -> d.add(2, 3, 6, 5), 5, "3*x");
        makes("6 add, both of HIGHEST degree", desk, d -> d.add(0, 1, 1, 5), 5, "2*x^12");
    }

    private void addOntoItself() {
        makes("6 add, to is a", Desk.with(7, 2, 0, "x+1", "y"), d -> d.add(0, 2, 1, 0), 0, "x+2*y+1");
        makes("6 add, to is b", Desk.with(7, 2, 0, "x+1", "y"), d -> d.add(0, 2, 1, 1), 1, "x+2*y+1");
        makes("6 add, a is b", Desk.with(7, 2, 0, "x+1", "y"), d -> d.add(0, 2, 0, 1), 1, "3*x+3");
        makes("6 add, all are one", Desk.with(7, 2, 0, "x+1", "y"), d -> d.add(0, 2, 0, 0), 0, "3*x+3");
        makes("6 add, all are one and cancel", Desk.with(7, 2, 0, "x+1", "y"), d -> d.add(0, 6, 0, 0), 0, "0");
    }

    private void multiplyTakesIndexes() {
        changes("7 multiply, a 0", 2, "5*x*z+5*y^2+5", desk -> desk.multiply(0, 5, 2));
        changes("7 multiply, a 7", 2, "5*z^3+10", desk -> desk.multiply(7, 5, 2));
        changes("7 multiply, b 0", 2, "5*x*z+5*y^2+5", desk -> desk.multiply(5, 0, 2));
        changes("7 multiply, b 7", 2, "5*z^3+10", desk -> desk.multiply(5, 7, 2));
        changes("7 multiply, to 0", 0, "x^2+2*x*y+y^2", desk -> desk.multiply(4, 4, 0));
        changes("7 multiply, to 7", 7, "x*y^2*z+y^3*z", desk -> desk.multiply(4, 6, 7));
    }

    private void multiplyRefusesIndexes() {
        for (int k : NO_POLYNOMIALS) {
            stays("7 multiply, " + nth("a", k) + " is refused", Outcome.INDEX, desk -> desk.multiply(k, 4, 0));
            stays("7 multiply, " + nth("b", k) + " is refused", Outcome.INDEX, desk -> desk.multiply(4, k, 0));
            stays("7 multiply, " + nth("to", k) + " is refused", Outcome.INDEX, desk -> desk.multiply(4, 4, k));
            stays("7 multiply, " + nth("all of them", k) + " are refused", Outcome.INDEX, desk -> desk.multiply(k, k, k));
            String both = "7 multiply, " + nth("to", k) + " is refused ahead of too high a degree";
            stays(both, Outcome.INDEX, desk -> desk.multiply(1, 1, k));
        }
    }

    private void multiplyRefusesDegrees() {
        stays("7 multiply, degree 7 and 1 with N 3 is refused", Outcome.STATE, desk -> desk.multiply(1, 4, 2));
        stays("7 multiply, degree 1 and 7 with N 3 is refused", Outcome.STATE, desk -> desk.multiply(3, 1, 2));
        stays("7 multiply, degree 7 and 7 with N 3 is refused", Outcome.STATE, desk -> desk.multiply(1, 1, 2));
        stays("7 multiply, refused where to is a", Outcome.STATE, desk -> desk.multiply(1, 4, 1));
        stays("7 multiply, refused where to is b", Outcome.STATE, desk -> desk.multiply(1, 4, 4));
        stays("7 multiply, refused where all are one", Outcome.STATE, desk -> desk.multiply(1, 1, 1));
    }

    private void multiplyWithEachN() {
        for (int n = 1; n <= 4; n++) {
            int h = HIGHEST[n - 1];
            String last = "xyzw".substring(n - 1, n);
            String with = " with N " + n;
            String below = "x^" + (h - 1) + "+1";
            Work work = d -> d.multiply(0, 1, 2);
            makes("HIGHEST, multiply up to it" + with, Desk.with(2, n, 0, below, last), work, 2,
                n == 1 ? "x^" + h + "+x" : "x^" + (h - 1) + "*" + last + "+" + last);
            int each = n;
            of("HIGHEST, multiply one beyond it" + with, () -> {
                Desk desk = Desk.with(2, each, 0, "x^" + h + "+1", last);
                is("multiply", work.on(desk), Outcome.STATE);
                is("polynomial 2", desk.printed(2), "0");
            });
            of("HIGHEST, multiply twice of it" + with, () -> {
                Desk desk = Desk.with(2, each, 0, "x^" + h, last + "^" + h);
                is("multiply", work.on(desk), Outcome.STATE);
            });
            makes("HIGHEST, multiply it by a number" + with, Desk.with(7, n, 0, "x^" + h, "3"), work, 2, "3*x^" + h);
        }
    }

    private void multiplyByZero() {
        changes("7 multiply, HIGHEST degree by 0", 7, "0", desk -> desk.multiply(1, 2, 7));
        changes("7 multiply, 0 by HIGHEST degree", 0, "0", desk -> desk.multiply(2, 1, 0));
        changes("7 multiply, 0 by HIGHEST degree onto that", 1, "0", desk -> desk.multiply(2, 1, 1));
        changes("7 multiply, 0 by 0", 4, "0", desk -> desk.multiply(2, 2, 4));
        Desk desk = Desk.with(7, 2, 0, "x+y", "6", "x^6+x^5*y+x^4*y^2+x^3*y^3+x^2*y^4+x*y^5+y^6", "x-y");
        makes("7 multiply, by P - 1", desk, d -> d.multiply(0, 1, 5), 5, "6*x+6*y");
        makes("7 multiply, numbers P - 1", desk, d -> d.multiply(1, 1, 5), 5, "1");
        makes("7 multiply, what cancels is no term", desk, d -> d.multiply(2, 3, 5), 5, "x^7+6*y^7");
    }

    private void multiplyOntoItself() {
        makes("7 multiply, to is a", Desk.with(7, 2, 0, "x+1", "y+1"), d -> d.multiply(0, 1, 0), 0, "x*y+x+y+1");
        makes("7 multiply, to is b", Desk.with(7, 2, 0, "x+1", "y+1"), d -> d.multiply(0, 1, 1), 1, "x*y+x+y+1");
        makes("7 multiply, a is b", Desk.with(7, 2, 0, "x+1", "y"), d -> d.multiply(0, 0, 1), 1, "x^2+2*x+1");
        makes("7 multiply, all are one", Desk.with(7, 2, 0, "x+1", "y"), d -> d.multiply(0, 0, 0), 0, "x^2+2*x+1");
    }

    private void deriveTakesIndexes() {
        changes("8 derive, a 0", 2, "2*y", desk -> desk.derive(0, 1, 2));
        changes("8 derive, a 7 by the last variable", 2, "3*z^2", desk -> desk.derive(7, 2, 2));
        changes("8 derive, to 0", 0, "7*x^6", desk -> desk.derive(1, 0, 0));
        changes("8 derive, to 7", 7, "2*y*z", desk -> desk.derive(6, 1, 7));
        changes("8 derive, to is a", 6, "y^2", desk -> desk.derive(6, 2, 6));
    }

    private void deriveRefuses() {
        for (int k : NO_POLYNOMIALS) {
            stays("8 derive, " + nth("a", k) + " is refused", Outcome.INDEX, desk -> desk.derive(k, 0, 0));
            stays("8 derive, " + nth("to", k) + " is refused", Outcome.INDEX, desk -> desk.derive(0, 0, k));
        }
        for (int v : NO_VARIABLES_OF_THREE) {
            stays("8 derive, " + nth("v", v) + " is refused with N 3", Outcome.INDEX, desk -> desk.derive(0, v, 0));
        }
        for (int n = 1; n <= 4; n++) {
            for (int v : new int[] {LEAST, -1, n, 4, GREATEST}) {
                Desk desk = Desk.with(7, n, 0, "x+1", "x");
                of("8 derive, " + nth("v", v) + " is refused with N " + n, () -> {
                    is("derive", desk.derive(0, v, 1), Outcome.INDEX);
                    is("polynomial 1", desk.printed(1), "x");
                });
            }
            Desk desk = Desk.with(7, n, 0, "xyzw".substring(n - 1, n) + "^2+x+1");
            int last = n - 1;
            String want = n == 1 ? "2*x+1" : "2*" + "xyzw".charAt(last);
            makes("8 derive, the last variable with N " + n, desk, d -> d.derive(0, last, 1), 1, want);
        }
    }

    private void derives(String name, int p, int n, String text, int v, String want) {
        makes("8 derive, " + name, Desk.with(p, n, 0, text), d -> d.derive(0, v, 7), 7, want);
    }

    private void deriveMeans() {
        derives("of 0", 7, 2, "0", 0, "0");
        derives("of a number", 7, 2, "5", 1, "0");
        derives("of a variable", 7, 2, "x", 0, "1");
        derives("of another variable", 7, 2, "x^3", 1, "0");
        derives("exponent P - 1", 7, 2, "x^6", 0, "6*x^5");
        derives("exponent P", 7, 2, "x^7", 0, "0");
        derives("exponent P + 1", 7, 2, "x^8", 0, "x^7");
        derives("exponent 2 with P 2", 2, 1, "x^2+x", 0, "1");
        derives("HIGHEST with P 2", 2, 1, "x^30+x^29", 0, "x^28");
        derives("HIGHEST with P 29", 29, 1, "x^30+x^29", 0, "x^29");
        derives("HIGHEST with P 31", 31, 1, "x^30", 0, "30*x^29");
        derives("the greatest coefficient and exponent", BIG, 1, "-x^30", 0, "31973*x^29");
        derives("several variables", 7, 4, "x^2*y*z*w+x*w^4+y", 3, "x^2*y*z+4*x*w^3");
        derives("terms that stay apart", 7, 2, "x^2*y+x*y^2", 0, "2*x*y+y^2");
    }

    private void setTakesIndexes() {
        changes("9 set, a 0", 2, "x*z+5", desk -> desk.set(0, 1, 2, 2));
        changes("9 set, a 7 for the last variable", 2, "10", desk -> desk.set(7, 2, 2, 2));
        changes("9 set, to 0", 0, "7", desk -> desk.set(1, 0, 2, 0));
        changes("9 set, to 7", 7, "4*z", desk -> desk.set(6, 1, 2, 7));
        changes("9 set, to is a", 6, "3*y^2", desk -> desk.set(6, 2, 3, 6));
    }

    private void setRefuses() {
        for (int k : NO_POLYNOMIALS) {
            stays("9 set, " + nth("a", k) + " is refused", Outcome.INDEX, desk -> desk.set(k, 0, 1, 0));
            stays("9 set, " + nth("to", k) + " is refused", Outcome.INDEX, desk -> desk.set(0, 0, 1, k));
        }
        for (int v : NO_VARIABLES_OF_THREE) {
            stays("9 set, " + nth("v", v) + " is refused with N 3", Outcome.INDEX, desk -> desk.set(0, v, 1, 0));
        }
        for (int n = 1; n <= 4; n++) {
            for (int v : new int[] {LEAST, -1, n, 4, GREATEST}) {
                Desk desk = Desk.with(7, n, 0, "x+1", "x");
                of("9 set, " + nth("v", v) + " is refused with N " + n, () -> {
                    is("set", desk.set(0, v, 0, 1), Outcome.INDEX);
                    is("polynomial 1", desk.printed(1), "x");
                });
            }
            Desk desk = Desk.with(7, n, 0, "xyzw".substring(n - 1, n) + "^2+1");
            int last = n - 1;
            makes("9 set, the last variable with N " + n, desk, d -> d.set(0, last, 2, 1), 1, "5");
        }
    }

    private void setTakesNumbers() {
        for (int p : new int[] {2, 7, BIG}) {
            int[] numbers = {LEAST, LEAST + 1, -p - 1, -p, -p + 1, -1, 0, 1, p - 1, p, p + 1, GREATEST - 1, GREATEST};
            for (int number : numbers) {
                of("9 set, " + nth("number", number) + " with P " + p, () -> {
                    Desk desk = Desk.with(p, 2, 0, "x*y", "x^3");
                    long told = Math.floorMod(number, p);
                    is("set", desk.set(0, 0, number, 2), Outcome.DONE);
                    is("y's coefficient", desk.term(2, 0, 4), told == 0 ? NONE : (int) told);
                    is("set", desk.set(1, 0, number, 3), Outcome.DONE);
                    is("the cube", desk.value(3, 0, 0, 0, 0), (int) (told * told % p * told % p));
                });
            }
        }
    }

    private void sets(String name, int n, String text, int v, int number, String want) {
        makes("9 set, " + name, Desk.with(7, n, 0, text), d -> d.set(0, v, number, 7), 7, want);
    }

    private void setMeans() {
        sets("of 0", 2, "0", 0, 3, "0");
        sets("of a number", 2, "5", 0, 0, "5");
        sets("0, what has no such variable stays", 2, "x*y+x+y^2+3", 0, 0, "y^2+3");
        sets("0, nothing stays", 2, "x*y+x", 0, 0, "0");
        sets("1, terms meet", 2, "x*y+x^2*y+y", 0, 1, "3*y");
        sets("a number that makes terms cancel", 2, "x*y-2*y", 0, 2, "0");
        sets("a number that makes P of them meet", 1, "x^6+x^5+x^4+x^3+x^2+x+1", 0, 1, "0");
        sets("another variable", 2, "x^3+1", 1, 0, "x^3+1");
        sets("HIGHEST exponent", 1, "x^30", 0, 3, "1");
        sets("each variable of four", 4, "x+2*y+3*z+4*w", 3, 1, "x+2*y+3*z+4");
        sets("a number below 0", 2, "x^3*y+x^2", 0, -1, "6*y+1");
        makes("9 set, the greatest coefficient and number", Desk.with(BIG, 1, 0, "-x^30"), d -> d.set(0, 0, 32002, 1), 1, "32002");
    }

    private void valueTakesIndexes() {
        for (int k : NO_POLYNOMIALS) {
            stays("10 value, " + nth("a", k) + " is refused", Outcome.INDEX, desk -> desk.value(k, 1, 1, 1, 1));
        }
        stays("10 value, a 0, nothing changes", 2, desk -> desk.value(0, 2, 1, 0, 7));
        stays("10 value, a 7, nothing changes", 10, desk -> desk.value(7, 0, 0, 2, 7));
        stays("10 value, of 0", 0, desk -> desk.value(2, 3, 3, 3, 3));
        stays("10 value, of a number", 5, desk -> desk.value(5, LEAST, GREATEST, 3, 3));
        stays("10 value, of HIGHEST degree", 7, desk -> desk.value(1, 2, 0, 0, 0));
        stays("10 value, with 0 for all variables: the number", 1, desk -> desk.value(0, 0, 0, 0, 0));
        stays("10 value, with 0 for all variables: no number", 0, desk -> desk.value(4, 0, 0, 0, 0));
    }

    private void valueTakesNumbers() {
        for (int p : new int[] {2, 7, BIG}) {
            int[] numbers = {LEAST, LEAST + 1, -p - 1, -p, -p + 1, -1, 0, 1, p - 1, p, p + 1, GREATEST - 1, GREATEST};
            for (int number : numbers) {
                of("10 value, " + nth("number", number) + " for each variable with P " + p, () -> {
                    Desk desk = Desk.with(p, 4, 0, "x", "y", "z", "w", "x*w");
                    int told = Math.floorMod(number, p);
                    is("x", desk.value(0, number, 0, 0, 0), told);
                    is("y", desk.value(1, 0, number, 0, 0), told);
                    is("z", desk.value(2, 0, 0, number, 0), told);
                    is("w", desk.value(3, 0, 0, 0, number), told);
                    is("x*w", desk.value(4, number, 0, 0, number), (int) ((long) told * told % p));
                });
            }
        }
        of("10 value, each variable has its own number", () -> {
            Desk desk = Desk.with(BIG, 4, 0, "x+10*y+100*z+1000*w");
            is("value", desk.value(0, 1, 2, 3, 4), 4321);
        });
        of("10 value, a sum that comes to P", () -> {
            is("value", Desk.with(7, 2, 0, "x+y").value(0, 3, 4, 0, 0), 0);
        });
        of("10 value, a sum that comes to P - 1", () -> {
            is("value", Desk.with(7, 2, 0, "x+y").value(0, 3, 3, 0, 0), 6);
        });
        of("10 value, the greatest coefficient and numbers", () -> {
            is("value", Desk.with(BIG, 1, 0, "-x^30").value(0, 32002, 0, 0, 0), 32002);
        });
    }

    private void valueOfVariablesBeyondN() {
        String[] texts = {"x+1", "x*y+1", "x*y*z+1", "x*y*z*w+1"};
        int[][] numbers = {{2, LEAST, -1, GREATEST}, {2, 3, LEAST, GREATEST}, {2, 3, 5, GREATEST}, {2, 3, 5, 7}};
        int[] want = {3, 7, 31, 211};
        for (int n = 1; n <= 4; n++) {
            int each = n - 1;
            of("10 value, numbers beyond N " + n + " do not count", () -> {
                Desk desk = Desk.with(BIG, each + 1, 0, texts[each]);
                int[] at = numbers[each];
                is("value", desk.value(0, at[0], at[1], at[2], at[3]), want[each]);
            });
        }
    }

    private void allMonomials() {
        for (int n = 1; n <= 4; n++) {
            int h = HIGHEST[n - 1];
            String with = " of all monomials with N " + n;
            List<int[]> all = Monomials.inOrder(n, 0, h);
            int each = n;
            of("6 add, a sum" + with, () -> {
                Desk desk = Monomials.full(BIG, each, 0, h);
                is("add", desk.add(0, 2, 0, 1), Outcome.DONE);
                areCoefficients(desk, all, h, monomial -> BIG - 3);
            });
            of("7 multiply, by a number" + with, () -> {
                Desk desk = Monomials.full(BIG, each, 0, h);
                is("read", desk.readText(1, "-5"), 1);
                is("multiply", desk.multiply(0, 1, 1), Outcome.DONE);
                areCoefficients(desk, all, h, monomial -> 5);
            });
            of("8 derive, a derivative" + with, () -> {
                Desk desk = Monomials.full(BIG, each, 0, h);
                is("derive", desk.derive(0, each - 1, 1), Outcome.DONE);
                areCoefficients(desk, all, h - 1, monomial -> BIG - 1 - monomial[each - 1]);
            });
            of("9 set, 1 for x" + with, () -> {
                Desk desk = Monomials.full(BIG, each, 0, h);
                is("set", desk.set(0, 0, 1, 1), Outcome.DONE);
                List<int[]> rest = all.stream().filter(monomial -> monomial[0] == 0).toList();
                areCoefficients(desk, rest, each == 1 ? 0 : h, monomial -> BIG - 1 - h + Monomials.degree(monomial));
            });
            of("10 value, at 1 and at -1" + with, () -> {
                Desk desk = Monomials.full(BIG, each, 0, h);
                int signs = all.stream().mapToInt(monomial -> Monomials.degree(monomial) % 2 == 0 ? -1 : 1).sum();
                is("at 1", desk.value(0, 1, 1, 1, 1), BIG - all.size());
                is("at -1", desk.value(0, -1, -1, -1, -1), Math.floorMod(signs, BIG));
            });
            of("7 multiply, two powers of a sum with N " + n + " as one", () -> {
                String sum = "(" + "x+y+z+w".substring(0, 2 * each - 1) + "-2)^";
                Desk desk = Desk.with(BIG, each, 1, sum + h / 2, sum + (h - h / 2), sum + h);
                is("multiply", desk.multiply(0, 1, 3), Outcome.DONE);
                is("terms", desk.about(3, 0), all.size());
                is("subtract", desk.add(3, -1, 2, 4), Outcome.DONE);
                is("the difference", desk.printed(4), "0");
            });
        }
    }

    private interface Coefficient {
        int of(int[] monomial);
    }

    /** Polynomial 1 has those of the monomials up to this degree, with these coefficients. */
    private void areCoefficients(Desk desk, List<int[]> monomials, int highest, Coefficient want) {
        int i = 0;
        for (int[] monomial : monomials) {
            if (Monomials.degree(monomial) <= highest) {
                is(Monomials.text(monomial), desk.term(1, i, 4), want.of(monomial));
                i++;
            }
        }
        is("how many", desk.about(1, 0), i);
        is("degree", desk.about(1, 1), highest);
    }
}
