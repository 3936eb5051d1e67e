/** Promises 1 and 2, with THE FIELD and VARIABLES, and how many calls an object is used for. */
public final class FieldTest extends Cases {
    private static final int[] NO_PRIMES = {
        LEAST, -32003, -7, -2, -1, 0, 1, 4, 6, 9, 49, 173 * 173, 178 * 178, 173 * 179, 32001, 32002,
        32004, 32005, 32009, 179 * 179, 65536 + 7, 65537, GREATEST,
    };

    public static void main(String[] args) {
        FieldTest test = new FieldTest();
        test.newObject();
        test.newObjectsAreApart();
        test.fieldTakesPrimes();
        test.fieldJudgesEveryNumber();
        test.fieldTakesVariables();
        test.fieldTakesOrders();
        test.fieldRefuses();
        test.fieldClears();
        test.fieldLeaves();
        test.numbersAreTold();
        test.variablesAreThere();
        test.lastCall();
        test.endCases();
    }

    // That ORDER is 0 can't be seen of a new object: with two variables both orders are the same.
    private void newObject() {
        of("1 new object, P is 7: 6 is 6, 7 is 0, 8 is 1", () -> {
            Desk desk = new Desk();
            is("terms of 6", desk.readText(0, "6"), 1);
            is("6", desk.printed(0), "6");
            is("terms of 7", desk.readText(0, "7"), 0);
            is("7", desk.printed(0), "0");
            is("terms of 8", desk.readText(0, "8"), 1);
            is("8", desk.printed(0), "1");
        });
        of("1 new object, N is 2: y is there, z is not", () -> {
            Desk desk = new Desk();
            is("y", desk.readText(0, "y"), 1);
            is("by y", desk.derive(0, 1, 0), Outcome.DONE);
            is("z", desk.readText(0, "z"), Outcome.ARGUMENT);
            is("z", desk.verdict(), "1@0");
            is("by z", desk.derive(0, 2, 0), Outcome.INDEX);
            is("set z", desk.set(0, 2, 1, 0), Outcome.INDEX);
        });
        of("1 new object, HIGHEST is that of N 2: 12", () -> {
            Desk desk = new Desk();
            is("degree 12", desk.readText(0, "x^6*y^6"), 1);
            is("degree 13", desk.readText(0, "x^6*y^7"), Outcome.ARGUMENT);
        });
        of("1 new object, no text in hand: nothing to read", () -> {
            Desk desk = new Desk();
            is("read", desk.read(0), Outcome.ARGUMENT);
            is("its fault", desk.verdict(), "1@0");
        });
        of("1 new object, no text in hand: room for 200 bytes", () -> {
            Desk desk = new Desk();
            is("200 bytes", desk.take(" ".repeat(199) + "x"), true);
            is("one more", desk.put(' ', 1), false);
            is("read", desk.read(0), 1);
        });
        for (int k = 0; k < 8; k++) {
            int each = k;
            of("1 new object, polynomial " + k + " is 0", () -> {
                Desk desk = new Desk();
                is("terms", desk.about(each, 0), 0);
                is("degree", desk.about(each, 1), NONE);
                is("term 0", desk.term(each, 0, 4), NONE);
                is("value", desk.value(each, 1, 1, 1, 1), 0);
                is("printed", desk.printed(each), "0");
            });
        }
        for (int i : new int[] {LEAST, -1, 0, 1, GREATEST}) {
            of("1 new object, no output: " + nth("byte", i), () -> is("output", new Desk().output(i), NONE));
        }
        of("1 new object, no read yet: no fault", () -> is("fault@place", new Desk().verdict(), "0@-1"));
        of("1 new object, NONE is -1", () -> is("NONE", PolynomialDesk.NONE, -1));
    }

    private void newObjectsAreApart() {
        of("1 new object, made beside a laden one", () -> {
            Desk laden = laden();
            String before = laden.seen();
            Desk fresh = new Desk();
            is("the new one's text", fresh.read(0), Outcome.ARGUMENT);
            is("the new one's output", fresh.output(0), NONE);
            is("the new one's field", fresh.readText(0, "7*x+8*y"), 1);
            is("the laden one", laden.seen(), before);
            is("the laden one's text", laden.read(7), 2);
        });
    }

    private void fieldTakesPrimes() {
        for (int p : new int[] {2, 3, 5, 7, 11, 179, 31991, 32003}) {
            of("2 field, P " + p + " is taken", () -> {
                Desk desk = new Desk();
                is("field", desk.field(p, 1, 0), Outcome.DONE);
                is("P - 1", desk.readText(0, "" + (p - 1)), 1);
                is("P - 1", desk.printed(0), "" + (p - 1));
                is("P", desk.readText(0, "" + p), 0);
                is("P + 1", desk.readText(0, "" + (p + 1)), 1);
                is("P + 1", desk.printed(0), "1");
            });
        }
    }

    private void fieldJudgesEveryNumber() {
        of("2 field, each number from -100 to 33000: primes up to 32003 are taken, no other", () -> {
            Desk desk = new Desk();
            for (int p = -100; p <= 33000; p++) {
                desk = desk.callsLeft() == 0 ? new Desk() : desk;
                boolean isPrime = p > 1 && java.math.BigInteger.valueOf(p).isProbablePrime(60);
                is("P " + p, desk.field(p, 4, 1), isPrime && p <= 32003 ? Outcome.DONE : Outcome.ARGUMENT);
            }
        });
    }

    private void fieldTakesVariables() {
        for (int n = 1; n <= 4; n++) {
            int each = n;
            of("2 field, N " + n + " is taken", () -> {
                Desk desk = new Desk();
                is("field", desk.field(5, each, 1), Outcome.DONE);
                is("the last variable", desk.derive(0, each - 1, 0), Outcome.DONE);
                is("one beyond", desk.derive(0, each, 0), Outcome.INDEX);
            });
        }
    }

    private void fieldTakesOrders() {
        of("2 field, ORDER 0 is taken", () -> {
            is("printed", Desk.with(5, 3, 0, "x*z+y^2").printed(0), "y^2+x*z");
        });
        of("2 field, ORDER 1 is taken", () -> {
            is("printed", Desk.with(5, 3, 1, "x*z+y^2").printed(0), "x*z+y^2");
        });
        of("2 field, ORDER 0 behind ORDER 1", () -> {
            Desk desk = Desk.with(5, 3, 1, "x*z+y^2");
            is("field", desk.field(5, 3, 0), Outcome.DONE);
            is("read", desk.readText(0, "x*z+y^2"), 2);
            is("printed", desk.printed(0), "y^2+x*z");
        });
    }

    private void fieldRefuses() {
        for (int p : NO_PRIMES) {
            stays("2 field, " + nth("P", p) + " is refused", Outcome.ARGUMENT, desk -> desk.field(p, 2, 0));
        }
        for (int n : new int[] {LEAST, -4, -1, 0, 5, 6, GREATEST}) {
            stays("2 field, " + nth("N", n) + " is refused", Outcome.ARGUMENT, desk -> desk.field(7, n, 0));
        }
        for (int order : new int[] {LEAST, -1, 2, 3, GREATEST}) {
            stays("2 field, " + nth("ORDER", order) + " is refused", Outcome.ARGUMENT, desk -> desk.field(7, 2, order));
        }
        stays("2 field, nothing that could be taken", Outcome.ARGUMENT, desk -> desk.field(LEAST, GREATEST, LEAST));
    }

    private void fieldClears() {
        for (int k = 0; k < 8; k++) {
            int each = k;
            of("2 field, polynomial " + k + " is 0 then", () -> {
                Desk desk = Desk.with(7, 4, 0, "1", "1", "1", "1", "1", "1", "1", "1");
                is("read", desk.readText(each, "(x+y+z+w+1)^5") instanceof Integer, true);
                is("field", desk.field(7, 1, 0), Outcome.DONE);
                is("terms", desk.terms(each), "0 of degree -1:");
                is("printed", desk.printed(each), "0");
            });
        }
        of("2 field, the same field once more: all polynomials are 0, no output", () -> {
            Desk desk = laden();
            is("field", desk.field(11, 3, 1), Outcome.DONE);
            is("what can be seen", desk.seen(), "1@2" + " | 0 of degree -1:".repeat(8) + " | ");
        });
        of("2 field, no output then, from its first byte to its last", () -> {
            Desk desk = Desk.with(7, 2, 0, "x^2+1");
            is("print", desk.print(0), 5);
            is("field", desk.field(11, 3, 1), Outcome.DONE);
            for (int i = -1; i <= 5; i++) {
                is("byte " + i, desk.output(i), NONE);
            }
        });
        of("2 field, from all monomials of N 4 to N 1 and back, nothing is left", () -> {
            Desk desk = Monomials.full(32003, 4, 0, 5);
            is("N 1", desk.field(2, 1, 0), Outcome.DONE);
            is("x^30", desk.readText(0, "x^30+x+1"), 3);
            is("x^30", desk.printed(0), "x^30+x+1");
            is("N 4", desk.field(32003, 4, 1), Outcome.DONE);
            is("printed", desk.printed(0), "0");
            is("w^5", desk.readText(0, "w^5-w"), 2);
            is("w^5", desk.printed(0), "w^5+32002*w");
        });
    }

    private void fieldLeaves() {
        of("2 field, no text in hand stays none", () -> {
            Desk desk = new Desk();
            is("field", desk.field(5, 1, 0), Outcome.DONE);
            is("read", desk.read(0), Outcome.ARGUMENT);
            is("fault@place", desk.verdict(), "1@0");
        });
        of("2 field, 200 bytes of text in hand stay", () -> {
            Desk desk = new Desk();
            is("200 bytes", desk.take("1+".repeat(98) + "10*z"), true);
            is("field", desk.field(101, 3, 0), Outcome.DONE);
            is("one more", desk.put(' ', 1), false);
            is("read", desk.read(0), 2);
            is("printed", desk.printed(0), "10*z+98");
        });
        of("2 field, no text in hand behind a put that was refused", () -> {
            Desk desk = new Desk();
            is("9 bytes", desk.put('x', 9), false);
            is("field", desk.field(5, 1, 0), Outcome.DONE);
            is("read", desk.read(0), Outcome.ARGUMENT);
        });
        of("2 field, the fault of the latest read stays", () -> {
            Desk desk = new Desk();
            is("read", desk.readText(0, "x+$"), Outcome.ARGUMENT);
            is("field", desk.field(2, 1, 0), Outcome.DONE);
            is("fault@place", desk.verdict(), "1@2");
        });
    }

    private void numbersAreTold() {
        for (int p : new int[] {2, 7, 32003}) {
            of("THE FIELD, told as 0 .. P - 1 with P " + p, () -> {
                Desk desk = Desk.with(p, 1, 0, "0-1", "-" + p, "x");
                is("-1", desk.term(0, 0, 4), p - 1);
                is("-P", desk.about(1, 0), 0);
                is("x at -1", desk.value(2, -1, 0, 0, 0), p - 1);
                is("x at P - 1", desk.value(2, p - 1, 0, 0, 0), p - 1);
                is("x at P", desk.value(2, p, 0, 0, 0), 0);
                is("x at -P", desk.value(2, -p, 0, 0, 0), 0);
                is("x at P + 1", desk.value(2, p + 1, 0, 0, 0), 1);
                is("x at -P - 1", desk.value(2, -p - 1, 0, 0, 0), p - 1);
            });
        }
    }

    private void variablesAreThere() {
        for (int n = 1; n <= 4; n++) {
            for (int v = 0; v < 4; v++) {
                String name = "xyzw".substring(v, v + 1);
                String want = v < n ? name + "+1" : "1@2";
                int each = n;
                of("VARIABLES, " + name + (v < n ? " is" : " is not") + " there with N " + n, () -> {
                    Desk desk = Desk.with(7, each, 0);
                    Object answer = desk.readText(0, "1+" + name);
                    is("what it reads as", answer.equals(2) ? desk.printed(0) : desk.verdict(), want);
                });
            }
        }
        for (String name : new String[] {"v", "X", "Y", "Z", "W", "a", "`", "{", "t"}) {
            of("VARIABLES, " + name + " is none", () -> {
                Desk desk = Desk.with(7, 4, 0);
                is("read", desk.readText(0, "x+" + name), Outcome.ARGUMENT);
                is("fault@place", desk.verdict(), "1@2");
            });
        }
    }

    private void lastCall() {
        of("What it is, the 512th call behind 511 that were refused", () -> {
            Desk desk = Desk.with(7, 2, 0, "x+1");
            while (desk.callsLeft() > 1) {
                is("refused", desk.multiply(0, 8, 0), Outcome.INDEX);
            }
            is("the 512th", desk.value(0, 5, 0, 0, 0), 6);
        });
        of("What it is, the 512th call behind 511 that change the field", () -> {
            Desk desk = new Desk();
            while (desk.callsLeft() > 1) {
                is("field", desk.field(32003, 1 + desk.callsLeft() % 4, desk.callsLeft() % 2), Outcome.DONE);
            }
            is("the 512th", desk.print(7), 1);
        });
        of("What it is, the 512th call behind texts of 200 bytes", () -> {
            Desk desk = Desk.with(32003, 4, 0);
            while (desk.callsLeft() > 26) {
                is("read", desk.readText(3, "(x+y+z+w+1)^5" + "+0".repeat(93) + " "), 126);
            }
            while (desk.callsLeft() > 1) {
                is("fault", desk.fault(0), 0);
            }
            is("the 512th", desk.about(3, 0), 126);
        });
    }
}
