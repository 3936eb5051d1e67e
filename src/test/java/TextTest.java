/** Promises 3 to 5: text comes in, is read, and has its first fault told. */
public final class TextTest extends Cases {
    private static final long DIGITS = 0x3132333435363738L;

    public static void main(String[] args) {
        TextTest test = new TextTest();
        test.putTakesTheLowest();
        test.putTakesLongs();
        test.putTakesTwoHundred();
        test.putRefuses();
        test.readTakesIndexes();
        test.readRefusesIndexes();
        test.readEmptiesTheText();
        test.readCountsTerms();
        test.readRefusesFaults();
        test.faultAnswers();
        test.faultOfTheLatestRead();
        test.endCases();
    }

    private void putTakesTheLowest() {
        for (int n = 1; n <= 8; n++) {
            int each = n;
            String lowest = "12345678".substring(8 - n);
            of("3 put, n " + n + ": the lowest bytes, the highest first", () -> {
                Desk desk = Desk.with(32003, 1, 0);
                is("put", desk.put(DIGITS, each), true);
                is("read", desk.read(0), 1);
                is("the number", desk.value(0, 0, 0, 0, 0), Integer.parseInt(lowest) % 32003);
            });
            of("3 put, n " + n + ": so many bytes and no more", () -> {
                Desk desk = new Desk();
                is("put", desk.put(0x2020202020202020L, each), true);
                is("read", desk.read(0), Outcome.ARGUMENT);
                is("the end", desk.verdict(), "1@" + each);
            });
        }
        of("3 put, n 0: none come, and it is true", () -> {
            Desk desk = new Desk();
            is("put", desk.put(DIGITS, 0), true);
            is("read", desk.read(0), Outcome.ARGUMENT);
            is("fault@place", desk.verdict(), "1@0");
        });
        of("3 put, bytes come behind those in hand", () -> {
            Desk desk = Desk.with(32003, 1, 0);
            is("12", desk.put(Desk.bytes("12"), 2), true);
            is("none", desk.put(DIGITS, 0), true);
            is("34", desk.put(Desk.bytes("34"), 2), true);
            is("read", desk.read(0), 1);
            is("printed", desk.printed(0), "1234");
        });
    }

    private void putTakesLongs() {
        of("3 put, the least long: byte 128 is first", () -> {
            Desk desk = new Desk();
            is("put", desk.put(Long.MIN_VALUE, 8), true);
            is("read", desk.read(0), Outcome.ARGUMENT);
            is("fault@place", desk.verdict(), "1@0");
        });
        of("3 put, the least long: its lowest 7 bytes are 0, which is no space", () -> {
            Desk desk = new Desk();
            is("x", desk.put('x', 1), true);
            is("put", desk.put(Long.MIN_VALUE, 7), true);
            is("read", desk.read(0), Outcome.ARGUMENT);
            is("fault@place", desk.verdict(), "1@1");
        });
        of("3 put, the greatest long: byte 127 is first", () -> {
            Desk desk = new Desk();
            is("put", desk.put(Long.MAX_VALUE, 8), true);
            is("read", desk.read(0), Outcome.ARGUMENT);
            is("fault@place", desk.verdict(), "1@0");
        });
        of("3 put, the highest byte of a long below 0 does not come with n 7", () -> {
            Desk desk = new Desk();
            is("put", desk.put(Long.MIN_VALUE | Desk.bytes("x + y+1"), 7), true);
            is("read", desk.read(0), 3);
        });
        of("3 put, -1: its lowest byte is 255", () -> {
            Desk desk = new Desk();
            is("put", desk.put(-1, 1), true);
            is("read", desk.read(0), Outcome.ARGUMENT);
            is("fault@place", desk.verdict(), "1@0");
        });
        of("3 put, what stands above the lowest byte does not count", () -> {
            Desk desk = new Desk();
            is("put", desk.put(256 + 'x', 1), true);
            is("read", desk.read(0), 1);
        });
        of("3 put, x with its highest bit is not x", () -> {
            Desk desk = new Desk();
            is("put", desk.put(128 + 'x', 1), true);
            is("read", desk.read(0), Outcome.ARGUMENT);
        });
    }

    /** A desk with so many bytes of text in hand, which mean y. */
    private static Desk holding(int bytes) {
        Desk desk = new Desk();
        if (!desk.take("y" + " ".repeat(bytes - 1))) {
            throw new AssertionError("the text was not taken");
        }
        return desk;
    }

    private void putTakesTwoHundred() {
        for (int n = 0; n <= 8; n++) {
            int each = n;
            of("3 put, n " + n + " up to 200 bytes: true, all come", () -> {
                Desk desk = holding(200 - each);
                is("put", desk.put(Desk.bytes("       $"), each), true);
                is("a byte more", desk.put(' ', 1), false);
                is("read", desk.read(0), each == 0 ? (Object) 1 : Outcome.ARGUMENT);
                is("fault@place", desk.verdict(), each == 0 ? "0@-1" : "1@199");
            });
        }
        for (int n = 1; n <= 8; n++) {
            int each = n;
            of("3 put, n " + n + " up to 201 bytes: false, none come", () -> {
                Desk desk = holding(201 - each);
                is("put", desk.put(Desk.bytes("$$$$$$$$"), each), false);
                is("read", desk.read(0), 1);
                is("printed", desk.printed(0), "y");
            });
        }
        for (int n = 0; n <= 8; n++) {
            int each = n;
            of("3 put, n " + n + " with 200 bytes in hand", () -> {
                Desk desk = holding(200);
                is("put", desk.put(Desk.bytes("$$$$$$$$"), each), each == 0);
                is("read", desk.read(0), 1);
                is("printed", desk.printed(0), "y");
            });
        }
        of("3 put, what was refused for length leaves room for what fits", () -> {
            Desk desk = holding(196);
            is("5 bytes", desk.put(Desk.bytes("$$$$$"), 5), false);
            is("4 bytes", desk.put(Desk.bytes(" + 1"), 4), true);
            is("read", desk.read(0), 2);
            is("printed", desk.printed(0), "y+1");
        });
    }

    private void putRefuses() {
        for (int n : new int[] {LEAST, LEAST + 8, -256, -8, -1, 9, 10, 64, 256, 200, GREATEST}) {
            stays("3 put, " + nth("n", n) + " is refused", false, desk -> desk.put(DIGITS, n));
        }
        for (long v : new long[] {Long.MIN_VALUE, -1, 0, Long.MAX_VALUE}) {
            stays("3 put, n 9 is refused with v " + v, false, desk -> desk.put(v, 9));
            stays("3 put, n -1 is refused with v " + v, false, desk -> desk.put(v, -1));
            stays("3 put, n 0 of v " + v, true, desk -> desk.put(v, 0));
        }
    }

    private void readTakesIndexes() {
        for (int k = 0; k < 8; k++) {
            int each = k;
            of("4 read, k " + k + " becomes the text, the others stay", () -> {
                Desk desk = laden();
                String[] before = desk.seen().split(" \\| ");
                is("read", desk.read(each), 2);
                String[] after = desk.seen().split(" \\| ");
                for (int part = 1; part < before.length; part++) {
                    boolean isRead = part == each + 1;
                    is("part " + part, after[part], isRead ? "2 of degree 2: 1 0 1 0 1; 0 2 0 0 10;" : before[part]);
                }
            });
        }
    }

    private void readRefusesIndexes() {
        for (int k : NO_POLYNOMIALS) {
            stays("4 read, " + nth("k", k) + " is refused, the text stays", Outcome.INDEX, desk -> desk.read(k));
            of("4 read, " + nth("k", k) + " is refused, no text stays none", () -> {
                Desk desk = new Desk();
                is("read", desk.read(k), Outcome.INDEX);
                is("no fault of it", desk.verdict(), "0@-1");
                is("read 0", desk.read(0), Outcome.ARGUMENT);
                is("its fault", desk.verdict(), "1@0");
            });
            of("4 read, " + nth("k", k) + " is refused ahead of a fault, which stays", () -> {
                Desk desk = new Desk();
                is("read", desk.readText(k, "x+$"), Outcome.INDEX);
                is("no fault of it", desk.verdict(), "0@-1");
                is("read 0", desk.read(0), Outcome.ARGUMENT);
                is("its fault", desk.verdict(), "1@2");
            });
        }
        of("4 read, refused for k with 200 bytes in hand, all stay", () -> {
            Desk desk = holding(200);
            is("read 8", desk.read(8), Outcome.INDEX);
            is("one more", desk.put(' ', 1), false);
            is("read 7", desk.read(7), 1);
        });
    }

    private void readEmptiesTheText() {
        of("4 read, the text is empty then", () -> {
            Desk desk = Desk.with(7, 2, 0, "x");
            is("read", desk.read(0), Outcome.ARGUMENT);
            is("fault@place", desk.verdict(), "1@0");
        });
        of("4 read, the text is empty then: room for 200 bytes once more", () -> {
            Desk desk = holding(200);
            is("read", desk.read(0), 1);
            is("200 bytes", desk.take(" ".repeat(198) + "2x"), true);
            is("one more", desk.put(' ', 1), false);
            is("read", desk.read(0), Outcome.ARGUMENT);
            is("fault@place", desk.verdict(), "1@199");
        });
        of("4 read, the text is empty behind a fault too", () -> {
            Desk desk = new Desk();
            is("a fault", desk.readText(0, "x+$"), Outcome.ARGUMENT);
            is("200 bytes", desk.take("y" + " ".repeat(199)), true);
            is("read", desk.read(0), 1);
            is("printed", desk.printed(0), "y");
        });
        of("4 read, a shorter text behind a longer one", () -> {
            Desk desk = Desk.with(7, 2, 0, "x+y+1+x*y", "y");
            is("the longer", desk.printed(0), "x*y+x+y+1");
            is("the shorter", desk.printed(1), "y");
        });
    }

    private void counts(String what, int p, int n, String text, int want) {
        of("4 read, how many terms: " + what, () -> {
            Desk desk = Desk.with(p, n, 0, "x^2+x+1");
            is("read", desk.readText(0, text), want);
            is("about", desk.about(0, 0), want);
        });
    }

    private void readCountsTerms() {
        counts("none of 0", 7, 2, "0", 0);
        counts("none of -0", 7, 2, "-0", 0);
        counts("none of P", 7, 2, "7", 0);
        counts("none where all cancel", 7, 2, "x-x", 0);
        counts("none where P of them meet", 7, 2, "x+x+x+x+x+x+x", 0);
        counts("one of a number", 7, 2, "3", 1);
        counts("one of P - 1 that meet", 7, 2, "x+x+x+x+x+x", 1);
        counts("one where a variable is met twice", 7, 2, "x+x", 1);
        counts("all 31 with N 1", 32003, 1, "(x+1)^30", 31);
        counts("all 91 with N 2", 32003, 2, "(x+y+1)^12", 91);
        counts("all 120 with N 3", 32003, 3, "(x+y+z+1)^7", 120);
        counts("all 126 with N 4", 32003, 4, "(x+y+z+w+1)^5", 126);
        counts("those that P leaves", 7, 3, "(x+y+z+1)^7", 4);
    }

    private void readRefusesFaults() {
        String[] faulty = {"", " ", "x^8+$", "(".repeat(21), "x^7*y", "x^8", "1234567890", "x^100"};
        String[] verdicts = {"1@0", "1@1", "3@1", "2@20", "3@3", "3@1", "4@0", "4@2"};
        for (int i = 0; i < faulty.length; i++) {
            String text = faulty[i];
            String verdict = verdicts[i];
            for (int k : new int[] {0, 2, 7}) {
                of("4 read, a FAULT in '" + text + "', polynomial " + k + " stays, and all others", () -> {
                    Desk desk = laden();
                    desk.read(2);
                    String before = desk.seen();
                    is("read", desk.readText(k, text), Outcome.ARGUMENT);
                    String after = desk.seen();
                    is("before", before.startsWith("0@-1 | "), true);
                    is("after", after, verdict + before.substring(4));
                });
            }
        }
    }

    private void faultAnswers() {
        for (int what : new int[] {LEAST, -1, 2, 3, GREATEST}) {
            stays("5 fault, " + nth("what", what) + " with a fault: NONE", NONE, desk -> desk.fault(what));
            of("5 fault, " + nth("what", what) + " without a fault: NONE", () -> {
                is("fault", Desk.with(7, 2, 0, "x").fault(what), NONE);
            });
            of("5 fault, " + nth("what", what) + " of a new object: NONE", () -> is("fault", new Desk().fault(what), NONE));
        }
        stays("5 fault, what 0 with a fault", 1, desk -> desk.fault(0));
        stays("5 fault, what 1 with a fault", 2, desk -> desk.fault(1));
        of("5 fault, what 0 without: 0", () -> is("fault", Desk.with(7, 2, 0, "x").fault(0), 0));
        of("5 fault, what 1 without: NONE", () -> is("fault", Desk.with(7, 2, 0, "x").fault(1), NONE));
        String[] texts = {"$", " ".repeat(198) + "x$", " ".repeat(200), "x" + "+x".repeat(99) + "+"};
        String[] verdicts = {"1@0", "1@199", "1@200", "1@200"};
        String[] names = {"the first byte", "the 200th byte", "the end of 200 spaces", "the end of 200 bytes of terms"};
        for (int i = 0; i < texts.length; i++) {
            String text = texts[i];
            String verdict = verdicts[i];
            of("5 fault, its PLACE is " + names[i], () -> {
                Desk desk = new Desk();
                is("read", desk.readText(0, text), Outcome.ARGUMENT);
                is("fault@place", desk.verdict(), verdict);
            });
        }
    }

    private void faultOfTheLatestRead() {
        of("5 fault, a read without one behind one with", () -> {
            Desk desk = new Desk();
            is("with", desk.readText(0, "x^13"), Outcome.ARGUMENT);
            is("with", desk.verdict(), "3@1");
            is("without", desk.readText(0, "x"), 1);
            is("without", desk.verdict(), "0@-1");
        });
        of("5 fault, a read with another behind one with", () -> {
            Desk desk = new Desk();
            is("one", desk.readText(0, "x^13"), Outcome.ARGUMENT);
            is("another", desk.readText(7, "12*1234567890"), Outcome.ARGUMENT);
            is("another", desk.verdict(), "4@3");
        });
        of("5 fault, text that is put does not change it", () -> {
            Desk desk = new Desk();
            is("read", desk.readText(0, "x^13"), Outcome.ARGUMENT);
            is("put", desk.take("$"), true);
            is("fault@place", desk.verdict(), "3@1");
        });
        of("5 fault, multiply's refusal is none", () -> {
            Desk desk = Desk.with(7, 2, 0, "x^7");
            is("multiply", desk.multiply(0, 0, 0), Outcome.STATE);
            is("fault@place", desk.verdict(), "0@-1");
        });
        for (int k : NO_POLYNOMIALS) {
            of("5 fault, a read refused for " + nth("k", k) + " does not change one", () -> {
                Desk desk = new Desk();
                is("a fault", desk.readText(0, "x^13"), Outcome.ARGUMENT);
                is("refused", desk.readText(k, "x"), Outcome.INDEX);
                is("fault@place", desk.verdict(), "3@1");
            });
            of("5 fault, a read refused for " + nth("k", k) + " does not make one", () -> {
                Desk desk = Desk.with(7, 2, 0, "x");
                is("refused", desk.readText(k, "x$"), Outcome.INDEX);
                is("fault@place", desk.verdict(), "0@-1");
            });
        }
    }
}
