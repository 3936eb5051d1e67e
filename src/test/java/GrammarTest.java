import java.math.BigInteger;

/** TEXT, FAULTS and PLACE: what a text means, and its first fault. */
public final class GrammarTest extends Cases {
    private static final String OPEN = "(".repeat(20);
    private static final String CLOSE = ")".repeat(20);

    public static void main(String[] args) {
        GrammarTest test = new GrammarTest();
        test.sums();
        test.products();
        test.powers();
        test.numbers();
        test.spaces();
        test.depth();
        test.fullLength();
        test.outOfPlace();
        test.everyByte();
        test.tooHigh();
        test.tooHighWithEachN();
        test.zeroHasNoDegree();
        test.rightFactorFirst();
        test.tooManyDigits();
        test.firstOfTwoFaults();
        test.endCases();
    }

    /** What the text is PRINTED as, or FAULT@PLACE; polynomial 0 stays if there is a fault. */
    private void verdict(String name, int p, int n, String text, String want) {
        of(name + ", '" + text + "'", () -> {
            Desk desk = Desk.with(p, n, 0, "x+1");
            Object answer = desk.readText(0, text);
            if (answer instanceof Integer) {
                is("its fault", desk.verdict(), "0@-1");
                is("it reads as", desk.printed(0), want);
            } else {
                is("read", answer, Outcome.ARGUMENT);
                is("its fault", desk.verdict(), want);
                is("polynomial 0", desk.printed(0), "x+1");
            }
        });
    }

    private void reads(String name, String text, String want) {
        verdict("TEXT, " + name, 7, 2, text, want);
    }

    private void faulty(String name, String text, int kind, int place) {
        verdict("FAULTS, " + name, 7, 2, text, kind + "@" + place);
    }

    private void sums() {
        reads("a sum of one term", "x", "x");
        reads("a sum with + and -", "5*x+y-3", "5*x+y+4");
        reads("- takes the next term alone", "1-2-3", "3");
        reads("- ahead of the first term", "-x", "6*x");
        reads("- ahead takes the first term alone", "-x+y", "6*x+y");
        reads("- ahead takes the whole term", "-2*x", "5*x");
        reads("- ahead is no part of the factor", "-2^2", "3");
        reads("- ahead of the first term in ( )", "(-2)^2", "4");
        reads("- ahead of a sum in ( )", "-(x-y)", "6*x+y");
        reads("- ahead of 0", "-0", "0");
        reads("what cancels", "-x+x", "0");
        faulty("+ ahead of the first term", "+x", 1, 0);
        faulty("two - ahead", "--x", 1, 1);
        faulty("- behind +", "x+-y", 1, 2);
        faulty("+ behind -", "x-+y", 1, 2);
        faulty("+ behind +", "x++y", 1, 2);
        faulty("- behind -", "x--y", 1, 2);
        faulty("- behind *", "x*-y", 1, 2);
        faulty("+ ahead in ( )", "(+x)", 1, 1);
        faulty("two - ahead in ( )", "(--x)", 1, 2);
        faulty("no text", "", 1, 0);
        faulty("- alone", "-", 1, 1);
        faulty("nothing behind +", "x+", 1, 2);
        faulty("nothing behind -", "x-", 1, 2);
    }

    private void products() {
        reads("a term of two factors", "x*y", "x*y");
        reads("a term of many factors", "2*x*3*y*x", "6*x^2*y");
        reads("a term by a number that is 0", "x*0*y", "0");
        reads("a term by P", "7*x", "0");
        reads("* binds before + and -", "1+2*x-3*y", "2*x+4*y+1");
        faulty("nothing ahead of *", "*x", 1, 0);
        faulty("nothing behind *", "x*", 1, 2);
        faulty("* behind *", "x**y", 1, 2);
        faulty("* behind +", "x+*y", 1, 2);
        faulty("* behind - ahead", "-*x", 1, 1);
        faulty("nothing behind * in ( )", "(x*)", 1, 3);
        faulty("no * between variables", "xy", 1, 1);
        faulty("no * between a number and a variable", "2x", 1, 1);
        faulty("no * between a variable and a number", "x2", 1, 1);
        faulty("no * between a variable and (", "x(y)", 1, 1);
        faulty("no * between ) and (", "(x)(y)", 1, 3);
        faulty("no * between ) and a variable", "(x)y", 1, 3);
        faulty("no * between ) and a number", "(x)2", 1, 3);
        faulty("no * behind a power", "x^2y", 1, 3);
        faulty("no * between a power and (", "x^2(y)", 1, 3);
    }

    private void powers() {
        reads("a power of a number", "3^2", "2");
        reads("a power of a variable", "x^3", "x^3");
        reads("a power of a sum", "(x+y)^2", "x^2+2*x*y+y^2");
        reads("a power of a sum in the field", "(x+y)^7", "x^7+y^7");
        reads("^ binds before *", "2*x^2", "2*x^2");
        reads("the number 1", "(x+y)^1", "x+y");
        reads("the number 01", "(x+y)^01", "x+y");
        reads("the number 12, of 2 digits", "x^12", "x^12");
        reads("the number 0, of a variable: 1", "x^0", "1");
        reads("the number 00, of a variable: 1", "x^00", "1");
        reads("the number 0, of a sum: 1", "(x+y)^0", "1");
        reads("the number 0, of a number: 1", "3^0", "1");
        reads("the number 0, of 0: 1", "0^0", "1");
        reads("the number 00, of 0: 1", "0^00", "1");
        reads("the number 0, of P: 1", "7^0", "1");
        reads("the number 0, of what cancels: 1", "(x-x)^0", "1");
        reads("the number 1, of 0: 0", "0^1", "0");
        reads("the number 99, of 0: 0", "0^99", "0");
        reads("the number 99, of 1", "1^99", "1");
        for (int exponent : new int[] {1, 2, 31, 32, 63, 64, 98, 99}) {
            BigInteger power = BigInteger.TWO.pow(exponent).mod(BigInteger.valueOf(32003));
            verdict("TEXT, the number " + exponent + " behind ^", 32003, 1, "2^" + exponent, "" + power);
        }
        verdict("TEXT, the number 99, of P - 1", 32003, 1, "32002^99", "32002");
        verdict("TEXT, the number 98, of P - 1", 32003, 1, "32002^98", "1");
        faulty("nothing ahead of ^", "^2", 1, 0);
        faulty("nothing behind ^", "x^", 1, 2);
        faulty("a variable behind ^", "x^y", 1, 2);
        faulty("( behind ^", "x^(2)", 1, 2);
        faulty("- behind ^", "x^-1", 1, 2);
        faulty("+ behind ^", "x^+1", 1, 2);
        faulty("^ behind ^", "x^^2", 1, 2);
        faulty("a second ^ behind a factor", "x^2^2", 1, 3);
        faulty("a second ^ behind a number", "2^2^2", 1, 3);
        faulty("a second ^ behind a sum", "(x)^2^2", 1, 5);
        reads("a second ^ behind ( )", "(x^2)^2", "x^4");
    }

    private void numbers() {
        reads("a number of 1 digit, the least", "0", "0");
        reads("a number of 1 digit, the greatest", "9", "2");
        for (int digits = 1; digits <= 9; digits++) {
            String number = "987654321".substring(0, digits);
            String want = "" + Integer.parseInt(number) % 32003;
            verdict("TEXT, a number of " + digits + " digits", 32003, 1, number, want);
            verdict("TEXT, 0 as " + digits + " digits", 32003, 1, "0".repeat(digits), "0");
        }
        verdict("TEXT, the greatest number of 9 digits", 32003, 1, "999999999", "" + 999999999 % 32003);
        verdict("TEXT, 1 as 9 digits", 32003, 1, "000000001", "1");
        verdict("TEXT, numbers below P", 32003, 1, "32002", "32002");
        verdict("TEXT, P is 0", 32003, 1, "32003", "0");
        verdict("TEXT, P + 1 is 1", 32003, 1, "32004", "1");
        verdict("TEXT, the greatest coefficients' product", 32003, 1, "32002*32002*x", "x");
        verdict("TEXT, the greatest coefficients' sum", 32003, 1, "32002*x+32002*x", "32001*x");
        verdict("TEXT, the greatest coefficients with - between", 32003, 1, "-32002*x-32002*x", "2*x");
        verdict("TEXT, reckoned in the field with P 2", 2, 4, "(x+y+z+w+1)^2", "x^2+y^2+z^2+w^2+1");
        faulty("two numbers", "2 3", 1, 2);
        faulty("9 digits and then one more behind a space", "123456789 0", 1, 10);
    }

    private void spaces() {
        reads("spaces ahead of the first", "   x", "x");
        reads("spaces behind the last", "x   ", "x");
        reads("spaces between any of these", " - x ^ 2 * y + 3 * ( x - y ) ^ 02 ", "6*x^2*y+3*x^2+x*y+3*y^2");
        reads("many spaces between any of these", "-   (   x   ^   2   )   *   y", "6*x^2*y");
        reads("199 spaces ahead", " ".repeat(199) + "x", "x");
        reads("199 spaces behind", "x" + " ".repeat(199), "x");
        reads("198 spaces between", "-" + " ".repeat(198) + "x", "6*x");
        faulty("spaces alone", "   ", 1, 3);
        faulty("200 spaces alone", " ".repeat(200), 1, 200);
        faulty("a space in a number", "1 2", 1, 2);
        faulty("a space in a number behind ^", "x^1 2", 1, 4);
        faulty("the end behind spaces", "x+  ", 1, 4);
        faulty("a byte behind spaces", "x  $", 1, 3);
    }

    private void depth() {
        for (int depth = 1; depth <= 20; depth++) {
            reads(depth + " ( in one another", OPEN.substring(20 - depth) + "x" + CLOSE.substring(20 - depth), "x");
        }
        reads("20 ( in one another, twice", OPEN + "x" + CLOSE + "*" + OPEN + "y" + CLOSE, "x*y");
        reads("20 ( in one another, with - ahead each time", "-(".repeat(20) + "x" + CLOSE, "x");
        reads("20 ( in one another, with a power each time", OPEN + "x" + ")^1".repeat(20), "x");
        reads("20 ( in one another, with sums each time", "(1+".repeat(20) + "x" + CLOSE, "x+6");
        reads("20 ( in one another, with products each time", "(2*".repeat(20) + "x" + CLOSE, "4*x");
        reads("( one behind another do not count", "(x)+".repeat(49) + "(y)", "y");
        reads("( one behind another within 19", OPEN.substring(1) + "(x)+(y)" + CLOSE.substring(1), "x+y");
        faulty("21 (", OPEN + "(x)" + CLOSE, 2, 20);
        faulty("21 ( and no more", OPEN + "(", 2, 20);
        faulty("200 (", "(".repeat(200), 2, 20);
        faulty("21 ( with spaces", " (".repeat(21) + "x", 2, 41);
        faulty("the 21st ( behind *", "x+ " + OPEN + "y*(", 2, 25);
        faulty("the 21st ( behind -", OPEN + "-(", 2, 21);
        faulty("the 21st ( behind others that were closed", OPEN.substring(1) + "(x)+(y)+(((", 2, 28);
        faulty("a 21st ( that can't stand there", OPEN + "x(", 1, 21);
        faulty("a 21st ( behind ^", OPEN + "x^(", 1, 22);
        faulty("the end within 20 (", OPEN, 1, 20);
        faulty("the end within 19 of 20 (", OPEN + "x)", 1, 22);
        faulty("a ) too many behind 20", OPEN + "x" + CLOSE + ")", 1, 41);
    }

    private void fullLength() {
        reads("200 bytes of terms", "1+".repeat(98) + "1000", "" + 1098 % 7);
        reads("200 bytes of terms of one byte each", "-" + "1+".repeat(99) + "1", "0");
        reads("200 bytes of factors", "1*".repeat(98) + "1000", "" + 1000 % 7);
        reads("199 bytes of factors", "2*".repeat(99) + "2", "2");
        reads("200 bytes of sums in ( )", "(1)+".repeat(49) + "1002", "" + 1051 % 7);
    }

    private void outOfPlace() {
        faulty("nothing in ( )", "()", 1, 1);
        faulty("spaces in ( )", "(  )", 1, 3);
        faulty("no )", "(x", 1, 2);
        faulty("no ) behind spaces", "(x  ", 1, 4);
        faulty("no ) behind a power", "(x^2", 1, 4);
        faulty("nothing behind (", "(", 1, 1);
        faulty("a ) too many", "(x+y))", 1, 5);
        faulty("a ) alone", ")", 1, 0);
        faulty("a ) behind +", "(x+)", 1, 3);
        faulty("a ) behind ^", "(x^)", 1, 3);
        faulty("a variable that is none", "x+v", 1, 2);
        faulty("a variable beyond N", "x+z", 1, 2);
        faulty("a variable that is written large", "X", 1, 0);
        faulty("the first of two", "x$*y+$", 1, 1);
    }

    private void everyByte() {
        String begins = " -(0123456789xy";
        String follows = " +-*^)";
        for (int c = 0; c < 256; c++) {
            int each = c;
            boolean mayBegin = begins.indexOf(c) >= 0;
            boolean mayFollow = follows.indexOf(c) >= 0;
            of("FAULTS, byte " + c + (mayBegin ? " may begin" : " can't begin") + " a text", () -> {
                Desk desk = new Desk();
                is("put", desk.put(each, 1), true);
                desk.read(0);
                boolean isWhole = Character.isDigit(each) || each == 'x' || each == 'y';
                is("fault@place", desk.verdict(), isWhole ? "0@-1" : mayBegin ? "1@1" : "1@0");
            });
            of("FAULTS, byte " + c + (mayFollow ? " may stand" : " can't stand") + " behind a factor in ( )", () -> {
                Desk desk = new Desk();
                is("put", desk.put(Desk.bytes("(x") << 8 | each, 3), true);
                desk.read(0);
                is("fault@place", desk.verdict(), each == ')' ? "0@-1" : mayFollow ? "1@3" : "1@2");
            });
        }
    }

    private void tooHigh() {
        faulty("a power of a number beyond 12", "x^13", 3, 1);
        faulty("the greatest number behind ^", "x^99", 3, 1);
        reads("a power of degree 12 by degree 2", "(x*y)^6", "x^6*y^6");
        faulty("a power of degree 14 by degree 2", "(x*y)^7", 3, 5);
        faulty("its place with spaces", "(x^2+1) ^ 7 $", 3, 8);
        faulty("the degree is the greatest of the terms'", "(x+y^4+1)^4", 3, 9);
        reads("the degree is the greatest of the terms', 12", "(x+0*y^5+1)^7", "x^7+1");
        reads("a product of degree 12", "x^6*y^6", "x^6*y^6");
        faulty("a product of degree 13", "x^6*y^7", 3, 3);
        faulty("a product of degree 13, at the second *", "x^6*3*y^7", 3, 5);
        faulty("a product of degree 13, one too many", "x*".repeat(12) + "x+x", 3, 23);
        reads("a product of 12 variables", "x*".repeat(11) + "x", "x^12");
        faulty("a product of sums", "(x^6+1) * (y^7+1)", 3, 8);
        faulty("the greatest degrees' product", "x^12*y^12", 3, 4);
        faulty("a product ahead of what would make it 0", "x^12*x*0", 3, 4);
        faulty("within ( ), ahead of the power 0", "(x^12*x)^0", 3, 5);
        faulty("within ( ), ahead of what would cancel it", "(x^13-x^13)", 3, 2);
        reads("a sum of degree 12 each", "x^12+y^12", "x^12+y^12");
        reads("a number has degree 0", "3*x^12*4", "5*x^12");
        reads("1 by the power 0 has degree 0", "x^12*(x^12)^0", "x^12");
    }

    private void tooHighWithEachN() {
        for (int n = 1; n <= 4; n++) {
            int h = HIGHEST[n - 1];
            String last = "xyzw".substring(n - 1, n);
            int wide = ("" + h).length();
            String with = " with N " + n;
            verdict("HIGHEST, a power of it" + with, 7, n, last + "^" + h, last + "^" + h);
            verdict("HIGHEST, a power beyond it" + with, 7, n, last + "^" + (h + 1), "3@1");
            verdict("HIGHEST, a product of it" + with, 7, n, last + "^" + (h - 1) + "*" + last, last + "^" + h);
            verdict("HIGHEST, a product beyond it" + with, 7, n, last + "^" + h + "*" + last, "3@" + (2 + wide));
            verdict("HIGHEST, a product beyond it from the right" + with, 7, n, "(x+1)*" + last + "^" + h, "3@5");
            verdict("HIGHEST, a product of it and a number" + with, 7, n, "3*" + last + "^" + h, "3*" + last + "^" + h);
            int half = h / 2 + 1;
            verdict("HIGHEST, a square beyond it" + with, 7, n, "(x^" + half + ")^2", "3@" + (4 + ("" + half).length()));
        }
        verdict("HIGHEST, of all variables together with N 3", 7, 3, "x^3*y^2*z^2", "x^3*y^2*z^2");
        verdict("HIGHEST, beyond it by all variables together with N 3", 7, 3, "x^3*y^2*z^3", "3@7");
        verdict("HIGHEST, of all variables together with N 4", 7, 4, "x^2*y*z*w", "x^2*y*z*w");
        verdict("HIGHEST, beyond it by all variables together with N 4", 7, 4, "x^2*y*z*w^2", "3@7");
        verdict("HIGHEST, a square of it with N 1", 7, 1, "(x^15)^2", "x^30");
        verdict("HIGHEST, a cube of it with N 1", 7, 1, "(x^10)^3", "x^30");
        verdict("HIGHEST, a cube beyond it with N 1", 7, 1, "(x^11)^3", "3@6");
    }

    private void zeroHasNoDegree() {
        reads("0 by a product beyond 12", "0*x^12*y", "0");
        reads("a product by P, then beyond 12", "x^12*7*y", "0");
        reads("a product by what cancels", "x^12*(y-y)", "0");
        reads("what cancels by a product", "(y-y)*x^12*x", "0");
        reads("what cancels by the power 99", "(x^5-x^5)^99", "0");
        reads("terms that cancel do not count for a power", "(x^5-x^5+2)^99", "1");
        reads("terms with P do not count for a power", "(7*x^12+x)^12", "x^12");
        reads("terms with P do not count for a product", "(7*x^12+x)*y^11", "x*y^11");
        verdict("TEXT, 7*x with P 7 has no degree", 7, 2, "(1+7*x)^99", "1");
        verdict("FAULTS, 7*x with P 11 has degree 1", 11, 2, "(1+7*x)^99", "3@7");
        verdict("TEXT, 7*x^12 with P 7 by y", 7, 2, "7*x^12*y", "0");
        verdict("FAULTS, 7*x^12 with P 11 by y", 11, 2, "7*x^12*y", "3@6");
    }

    private void rightFactorFirst() {
        faulty("a product when its right factor has been read, ahead of $", "x^12*y$", 3, 4);
        faulty("a product when its right factor has been read, ahead of )", "x^12*y)", 3, 4);
        faulty("a product when its right factor has been read, at the end", "x^12*y", 3, 4);
        faulty("a product when its right factor has been read, spaces behind it", "x^12*y   $", 3, 4);
        faulty("a product when its right factor has been read, in ( )", "x^12*(y)", 3, 4);
        faulty("a product when its right factor has been read with its power", "x^12*y^1^", 3, 4);
        reads("the right factor's power 0 makes it 1", "x^12*y^0", "x^12");
        reads("the right factor's power 0 behind spaces", "x^12*y  ^  0", "x^12");
        faulty("what can't stand behind the right factor's ^", "x^12*y^$", 1, 7);
        faulty("the end behind the right factor's ^", "x^12*y^", 1, 7);
        faulty("a power in the right factor", "x^12*y^13", 3, 6);
        faulty("too many digits behind the right factor's ^", "x^12*y^100", 4, 7);
        faulty("too many digits in the right factor", "x^12*1234567890", 4, 5);
        faulty("what can't stand in the right factor", "x^12*(y+$)", 1, 8);
        faulty("a product in the right factor", "x^12*(x^12*y)", 3, 10);
        faulty("21 ( in the right factor", "x^12*" + OPEN + "(", 2, 25);
        faulty("no right factor", "x^12*", 1, 5);
        faulty("a power when its number has been read, ahead of $", "x^13$", 3, 1);
        faulty("a power when its number has been read, ahead of a second ^", "x^13^2", 3, 1);
        faulty("a power when its number has been read, ahead of a number", "x^13 0", 3, 1);
        faulty("a power whose number has too many digits", "x^130", 4, 2);
    }

    private void tooManyDigits() {
        reads("9 digits", "123456789", "" + 123456789 % 7);
        faulty("10 digits", "1234567890", 4, 0);
        faulty("10 digits that are 0", "0000000000", 4, 0);
        faulty("11 digits", "12345678901", 4, 0);
        faulty("200 digits", "1".repeat(200), 4, 0);
        faulty("10 digits behind others", "x + 0000000001", 4, 4);
        faulty("10 digits in ( )", "(-1234567890)", 4, 2);
        faulty("10 digits ahead of $", "1234567890$", 4, 0);
        faulty("9 digits ahead of $", "123456789$", 1, 9);
        reads("2 digits behind ^", "x^12", "x^12");
        faulty("3 digits behind ^", "x^100", 4, 2);
        faulty("3 digits behind ^ that are 0", "x^000", 4, 2);
        faulty("3 digits behind ^ that are 1", "x^001", 4, 2);
        faulty("3 digits behind ^ of a number", "2^123", 4, 2);
        faulty("9 digits behind ^", "2^123456789", 4, 2);
        faulty("10 digits behind ^", "2^1234567890", 4, 2);
        faulty("3 digits behind ^ and spaces", "x ^  012", 4, 5);
        faulty("3 digits behind ^ of 0", "0^100", 4, 2);
        faulty("10 digits where no number can stand", "x 1234567890", 1, 2);
    }

    private void firstOfTwoFaults() {
        String[] kinds = {"$", OPEN + "(", "x^13", "1234567890"};
        int[] places = {0, 20, 1, 0};
        for (int first = 0; first < kinds.length; first++) {
            for (int second = 0; second < kinds.length; second++) {
                String text = kinds[first] + "+" + kinds[second];
                faulty("fault " + (first + 1) + " ahead of " + (second + 1), text, first + 1, places[first]);
                faulty("fault " + (first + 1) + " behind others", "x+y^2*" + text, first + 1, 6 + places[first]);
            }
        }
    }
}
