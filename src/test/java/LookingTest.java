import java.util.List;

/** Promises 11 to 14: what is told of polynomials and printed, with POLYNOMIAL, THE ORDER and PRINTED. */
public final class LookingTest extends Cases {
    private static final int BIG = 32003;
    private static final int[] MONOMIALS = {31, 91, 120, 126};

    public static void main(String[] args) {
        LookingTest test = new LookingTest();
        test.aboutAnswers();
        test.aboutTellsNone();
        test.polynomialsHaveNoZeros();
        test.termAnswers();
        test.termTellsNone();
        test.theOrder();
        test.allTermsInOrder();
        test.printTakesIndexes();
        test.printRefuses();
        test.printed();
        test.printsAllThereIs();
        test.outputAnswers();
        test.outputStays();
        test.endCases();
    }

    private void aboutAnswers() {
        stays("11 about, k 0: terms", 3, desk -> desk.about(0, 0));
        stays("11 about, k 0: degree", 2, desk -> desk.about(0, 1));
        stays("11 about, k 7: terms", 2, desk -> desk.about(7, 0));
        stays("11 about, k 7: degree", 3, desk -> desk.about(7, 1));
        stays("11 about, of 0: terms", 0, desk -> desk.about(2, 0));
        stays("11 about, of 0: degree NONE", NONE, desk -> desk.about(2, 1));
        stays("11 about, of a number: terms", 1, desk -> desk.about(5, 0));
        stays("11 about, of a number: degree 0", 0, desk -> desk.about(5, 1));
        stays("11 about, of HIGHEST degree", 7, desk -> desk.about(1, 1));
        of("DEGREE, the sum of four exponents", () -> is("degree", Desk.with(7, 4, 0, "x*y*z*w").about(0, 1), 4));
        of("DEGREE, the greatest of the terms'", () -> is("degree", Desk.with(7, 2, 1, "x^2+y^3").about(0, 1), 3));
        for (int n = 1; n <= 4; n++) {
            int h = HIGHEST[n - 1];
            int many = MONOMIALS[n - 1];
            int each = n;
            of("11 about, all monomials with N " + n, () -> {
                Desk desk = Monomials.full(BIG, each, 1, h);
                is("terms", desk.about(0, 0), many);
                is("degree", desk.about(0, 1), h);
            });
        }
    }

    private void aboutTellsNone() {
        for (int what : new int[] {LEAST, -1, 2, 3, 4, GREATEST}) {
            stays("11 about, " + nth("what", what) + ": NONE", NONE, desk -> desk.about(0, what));
        }
        for (int k : NO_POLYNOMIALS) {
            for (int what : new int[] {LEAST, -1, 0, 1, 2, GREATEST}) {
                of("11 about, " + nth("k", k) + " with " + nth("what", what) + ": NONE", () -> {
                    is("about", laden().about(k, what), NONE);
                });
            }
        }
    }

    private void polynomialsHaveNoZeros() {
        of("POLYNOMIAL, no coefficient is 0: read", () -> {
            is("terms", Desk.with(7, 2, 0, "7*x^3+x-x+y").terms(0), "1 of degree 1: 0 1 0 0 1;");
        });
        of("POLYNOMIAL, no coefficient is 0: add", () -> {
            Desk desk = Desk.with(7, 2, 0, "x^3+y", "x^3");
            desk.add(0, -1, 1, 0);
            is("terms", desk.terms(0), "1 of degree 1: 0 1 0 0 1;");
        });
        of("POLYNOMIAL, no coefficient is 0: multiply", () -> {
            Desk desk = Desk.with(7, 2, 0, "x+y", "x-y");
            desk.multiply(0, 1, 0);
            is("terms", desk.terms(0), "2 of degree 2: 2 0 0 0 1; 0 2 0 0 6;");
        });
        of("POLYNOMIAL, no coefficient is 0: derive", () -> {
            Desk desk = Desk.with(7, 2, 0, "x^7+x");
            desk.derive(0, 0, 0);
            is("terms", desk.terms(0), "1 of degree 0: 0 0 0 0 1;");
        });
        of("POLYNOMIAL, no coefficient is 0: set", () -> {
            Desk desk = Desk.with(7, 2, 0, "x^2*y^3-y^3+x");
            desk.set(0, 0, 1, 0);
            is("terms", desk.terms(0), "1 of degree 0: 0 0 0 0 1;");
        });
    }

    private void termAnswers() {
        int[][] want = {{1, 2, 0, 0, 3}, {0, 0, 0, 0, 4}};
        for (int i = 0; i < 2; i++) {
            for (int what = 0; what <= 4; what++) {
                int term = i;
                int each = what;
                of("12 term, i " + i + " what " + what, () -> {
                    is("term", Desk.with(7, 2, 0, "4+3*x*y^2").term(0, term, each), want[term][each]);
                });
            }
        }
        stays("12 term, k 0, nothing changes", 1, desk -> desk.term(0, 0, 2));
        stays("12 term, k 7, nothing changes", 3, desk -> desk.term(7, 0, 2));
        stays("12 term, the last one", 2, desk -> desk.term(7, 1, 4));
        for (int n = 1; n <= 4; n++) {
            int each = n;
            of("MONOMIAL, told by four exponents with N " + n, () -> {
                Desk desk = Desk.with(7, each, 0, "2*" + "x*y*z*w".substring(0, 2 * each - 1));
                for (int v = 0; v < 4; v++) {
                    is("exponent " + v, desk.term(0, 0, v), v < each ? 1 : 0);
                }
                is("coefficient", desk.term(0, 0, 4), 2);
            });
        }
        of("12 term, the greatest exponent and coefficient", () -> {
            is("terms", Desk.with(BIG, 1, 0, "-x^30").terms(0), "1 of degree 30: 30 0 0 0 32002;");
        });
    }

    private void termTellsNone() {
        for (int what : new int[] {LEAST, -1, 5, 6, GREATEST}) {
            stays("12 term, " + nth("what", what) + ": NONE", NONE, desk -> desk.term(0, 0, what));
        }
        for (int i : new int[] {LEAST, -2, -1, 3, 4, 126, GREATEST}) {
            stays("12 term, " + nth("i", i) + " of 3 terms: NONE", NONE, desk -> desk.term(0, i, 4));
            stays("12 term, " + nth("i", i) + " of 3 terms, an exponent: NONE", NONE, desk -> desk.term(0, i, 0));
        }
        for (int k : NO_POLYNOMIALS) {
            stays("12 term, " + nth("k", k) + ": NONE", NONE, desk -> desk.term(k, 0, 4));
            stays("12 term, " + nth("k", k) + ", an exponent: NONE", NONE, desk -> desk.term(k, 0, 0));
            stays("12 term, " + nth("k and i", k) + ": NONE", NONE, desk -> desk.term(k, k, 0));
        }
        for (int i : new int[] {LEAST, -1, 0, 1, GREATEST}) {
            for (int what = 0; what <= 4; what++) {
                int each = what;
                of("12 term, " + nth("i", i) + " what " + what + " of 0: NONE", () -> {
                    is("term", laden().term(2, i, each), NONE);
                });
            }
        }
    }

    private void inOrder(String name, int n, int order, String want) {
        String[] terms = want.split("\\+");
        StringBuilder backward = new StringBuilder();
        for (int i = terms.length - 1; i >= 0; i--) {
            backward.append(terms[i]).append(i > 0 ? "+" : "");
        }
        of("THE ORDER, " + name + " with ORDER " + order, () -> {
            Desk desk = Desk.with(7, n, order, backward.toString());
            is("printed", desk.printed(0), want);
        });
    }

    private void theOrder() {
        for (int order = 0; order <= 1; order++) {
            inOrder("by degree first, the last variable's higher", 2, order, "y^3+x^2+1");
            inOrder("by degree first, up to the number", 1, order, "x^30+x^10+x^9+x+1");
            inOrder("variables", 4, order, "x+y+z+w");
            inOrder("two variables", 2, order, "x^2+x*y+y^2");
            inOrder("squares", 4, order, "x^2+y^2+z^2+w^2");
            inOrder("one exponent is equal", 3, order, "x*y^2+x*y*z+x*z^2");
        }
        inOrder("the last exponent that differs is less", 3, 0, "y^2+x*z");
        inOrder("the first exponent that differs is greater", 3, 1, "x*z+y^2");
        inOrder("the last exponent that differs is less, not the third", 4, 0, "y*z+x*w");
        inOrder("the first exponent that differs is greater, not the second", 4, 1, "x*w+y*z");
        inOrder("the last exponent is equal, the third differs", 4, 0, "y^2*w+x*z*w");
        inOrder("the first exponent is equal, the second differs", 4, 1, "x*y*w+x*z^2");
        inOrder("all of degree 2", 3, 0, "x^2+x*y+y^2+x*z+y*z+z^2");
        inOrder("all of degree 2", 3, 1, "x^2+x*y+x*z+y^2+y*z+z^2");
        of("LEADING, the greatest is term 0", () -> {
            Desk desk = Desk.with(7, 3, 0, "1+x+x*z+2*y^2");
            is("coefficient", desk.term(0, 0, 4), 2);
            is("exponent of y", desk.term(0, 0, 1), 2);
        });
    }

    private void allTermsInOrder() {
        for (int n = 1; n <= 4; n++) {
            for (int order = 0; order <= 1; order++) {
                int each = n;
                int by = order;
                int h = HIGHEST[n - 1];
                List<int[]> all = Monomials.inOrder(n, order, h);
                of("THE ORDER, each term of all monomials with N " + n + " ORDER " + order, () -> {
                    Desk desk = Monomials.full(BIG, each, by, h);
                    for (int i = 0; i < all.size(); i++) {
                        desk = desk.callsLeft() < 6 ? Monomials.full(BIG, each, by, h) : desk;
                        for (int v = 0; v < 4; v++) {
                            is("term " + i + " exponent " + v, desk.term(0, i, v), all.get(i)[v]);
                        }
                        is("term " + i + " coefficient", desk.term(0, i, 4), BIG - 1);
                    }
                });
                of("12 term, the last of all monomials with N " + n + " ORDER " + order, () -> {
                    Desk desk = Monomials.full(BIG, each, by, h);
                    is("the last", desk.term(0, all.size() - 1, 4), BIG - 1);
                    is("one beyond", desk.term(0, all.size(), 4), NONE);
                    is("one beyond, an exponent", desk.term(0, all.size(), 0), NONE);
                });
            }
        }
    }

    private void printTakesIndexes() {
        String[] want = {"x*z+y^2+1", "x^7", "0", "10*z", "x+y", "5", "y^2*z", "z^3+2"};
        for (int k = 0; k < 8; k++) {
            int each = k;
            of("13 print, k " + k + ": its length, the output alone changes", () -> {
                Desk desk = laden();
                String before = desk.seen();
                is("print", desk.print(each), want[each].length());
                is("what can be seen", desk.seen(), before.replace("| x*z+y^2+1", "| " + want[each]));
                is("the text that stays", desk.read(7), 2);
            });
        }
    }

    private void printRefuses() {
        for (int k : NO_POLYNOMIALS) {
            stays("13 print, " + nth("k", k) + " is refused, the output stays", Outcome.INDEX, desk -> desk.print(k));
            of("13 print, " + nth("k", k) + " is refused, no output stays none", () -> {
                Desk desk = new Desk();
                is("print", desk.print(k), Outcome.INDEX);
                is("output", desk.output(0), NONE);
            });
        }
    }

    private void prints(String name, int p, int n, String text, String want) {
        of("PRINTED, " + name + ", '" + text + "'", () -> {
            Desk desk = Desk.with(p, n, 0, text);
            is("print", desk.print(0), want.length());
            is("the output", desk.outputText(), want);
        });
    }

    private void printed() {
        prints("0 for nothing", 7, 2, "x-x", "0");
        prints("the number 1", 7, 2, "1", "1");
        prints("the number 2", 7, 2, "2", "2");
        prints("1 behind others", 7, 2, "x+1", "x+1");
        prints("no 1 ahead of a variable", 7, 2, "1*x", "x");
        prints("no 1 ahead of variables", 7, 4, "1*x*y*z*w", "x*y*z*w");
        prints("2 ahead of a variable", 7, 2, "2*x", "2*x");
        prints("P - 1 for -1", 7, 2, "-x-1", "6*x+6");
        prints("no ^ with exponent 1", 7, 2, "x^1*y^1", "x*y");
        prints("^ with exponent 2", 7, 2, "x*x", "x^2");
        prints("exponent 9", 7, 1, "x^9", "x^9");
        prints("exponent 10", 7, 1, "x^10", "x^10");
        prints("exponent 30", 7, 1, "x^30", "x^30");
        prints("variables in order", 7, 4, "w*z*y*x", "x*y*z*w");
        prints("variables that are left out", 7, 4, "w^2*x", "x*w^2");
        prints("the last variable alone", 7, 4, "3*w", "3*w");
        prints("the greatest first", 7, 2, "1+y+x+x^2", "x^2+x+y+1");
        for (int number : new int[] {9, 10, 99, 100, 101, 999, 1000, 9999, 10000, 10001, 20030, 32002}) {
            prints("the number " + number, BIG, 1, "" + number, "" + number);
            prints("the coefficient " + number, BIG, 1, number + "*x", number + "*x");
        }
    }

    private void printsAllThereIs() {
        for (int n = 1; n <= 4; n++) {
            for (int order = 0; order <= 1; order++) {
                int each = n;
                int by = order;
                int h = HIGHEST[n - 1];
                String want = Monomials.fullText(BIG, n, order, h);
                of("13 print, all monomials, each coefficient of 5 digits, with N " + n + " ORDER " + order, () -> {
                    Desk desk = Monomials.full(BIG, each, by, h);
                    is("print", desk.print(0), want.length());
                    for (int i = 0; i < want.length(); i++) {
                        if (desk.callsLeft() < 1) {
                            desk = Monomials.full(BIG, each, by, h);
                            desk.print(0);
                        }
                        is("byte " + i, desk.output(i), (int) want.charAt(i));
                    }
                });
                of("14 output, the last byte of all monomials with N " + n + " ORDER " + order, () -> {
                    Desk desk = Monomials.full(BIG, each, by, h);
                    int length = (int) desk.print(0);
                    is("the last", desk.output(length - 1), (int) '2');
                    is("one beyond", desk.output(length), NONE);
                    is("print 0", desk.print(7), 1);
                    is("0", desk.output(0), (int) '0');
                    is("behind 0", desk.output(1), NONE);
                });
            }
        }
        of("13 print, all monomials with P 2: no coefficients", () -> {
            String want = Monomials.fullText(2, 4, 0, 5).replace("1*", "");
            Desk desk = Monomials.full(2, 4, 0, 5);
            is("print", desk.print(0), want.length());
            for (int i = 0; i < 100; i++) {
                is("byte " + i, desk.output(i), (int) want.charAt(i));
                is("byte -" + i, desk.output(want.length() - 1 - i), (int) want.charAt(want.length() - 1 - i));
            }
        });
    }

    private void outputAnswers() {
        stays("14 output, i 0", (int) 'x', desk -> desk.output(0));
        stays("14 output, the last byte", (int) '1', desk -> desk.output(8));
        for (int i : new int[] {LEAST, -2, -1, 9, 10, 200, 2268, GREATEST}) {
            stays("14 output, " + nth("i", i) + " of 9 bytes: NONE", NONE, desk -> desk.output(i));
            of("14 output, " + nth("i", i) + " without output: NONE", () -> is("output", new Desk().output(i), NONE));
        }
    }

    private void outputStays() {
        of("14 output, when the polynomial is another", () -> {
            Desk desk = Desk.with(7, 2, 0, "x^2+1", "y");
            desk.print(0);
            desk.add(1, 1, 1, 0);
            is("output", desk.outputText(), "x^2+1");
        });
        of("14 output, when text is read, with a fault and without", () -> {
            Desk desk = Desk.with(7, 2, 0, "x^2+1");
            desk.print(0);
            is("read", desk.readText(0, "y"), 1);
            is("read", desk.readText(0, "$"), Outcome.ARGUMENT);
            is("output", desk.outputText(), "x^2+1");
        });
        of("13 print, a shorter output behind a longer one", () -> {
            Desk desk = Desk.with(7, 2, 0, "x^2+1", "y");
            desk.print(0);
            is("print", desk.print(1), 1);
            is("output", desk.outputText(), "y");
            is("behind it", desk.output(1), NONE);
        });
        of("13 print, 0 behind a longer output", () -> {
            Desk desk = Desk.with(7, 2, 0, "x^2+1");
            desk.print(0);
            is("print", desk.print(7), 1);
            is("output", desk.outputText(), "0");
        });
    }
}
