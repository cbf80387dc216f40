import java.util.Arrays;
import java.util.List;

/** 'Terms', the boundary cases of the text: the grammar and its faults, a test for each. */
final class BoundaryTermsTest {
    public static void main(String[] args) {
        threads();
        actions();
        numbers();
        placesAndRegisters();
        conditions();
        bytes();
        lexemes();
        grammar();
        places();
        firstByPlace();
        oneTooMany();
        notInThreads();
        Rig.finish();
    }

    private static void threads() {
        Rig.test("Terms, no thread is too few", () -> {
            Rig.dueFault("", 2, 0);
            Rig.dueFault(" ", 2, 1);
            Rig.dueFault("exists (a = 1)", 2, 0);
            Rig.dueFault("f;", 2, 0);
        });
        Rig.test("Terms, one thread is enough", () -> Rig.due("threads", Rig.read("t0:").count(1), 1));
        Rig.test("Terms, four threads are not too many", () -> {
            Rig.due("threads", Rig.read("t0:t1:t2:t3:").count(1), 4);
            Rig.due("threads", Rig.read("t0:f;t1:f;t2:f;t3:f;exists(a=1)").count(1), 4);
        });
        Rig.test("Terms, the fifth thread is too many", () -> {
            Rig.dueFault("t0:t1:t2:t3:t4:", 4, 12);
            Rig.dueFault("t0:f;t1:f;t2:f;t3:f;t4:f;", 4, 20);
        });
        Rig.test("Terms, a thread may have no actions", () -> {
            Rig.due("actions", Rig.read("t0:").count(2), 0);
            Rig.due("actions", Rig.read("t0:t1:f;t2:").count(2), 1);
        });
        Rig.test("Terms, a thread bears the number of threads before it", () -> {
            Rig.dueFault("t1:", 2, 0);
            Rig.dueFault("t4:", 2, 0);
            Rig.dueFault("t0:t0:", 2, 3);
            Rig.dueFault("t0:t2:", 2, 3);
            Rig.dueFault("t0:t1:t1:", 2, 6);
            Rig.dueFault("t0:t1:t3:", 2, 6);
            Rig.dueFault("t0:t1:t2:t2:", 2, 9);
            Rig.dueFault("t0:t1:t2:t4:", 2, 9);
            Rig.dueFault("t0:t1:t2:t3:t3:", 2, 12);
            Rig.dueFault("t0:t1:t2:t3:t5:", 2, 12);
        });
        Rig.test("Terms, t and the number are one name", () -> {
            Rig.dueFault("t 0:", 2, 0);
            Rig.dueFault("t00:", 2, 0);
            Rig.dueFault("t0 0:", 2, 3);
            Rig.dueFault("t0:t01:", 2, 3);
        });
    }

    private static void actions() {
        String[] each = {"f;", "w a 1;", "r a r0;"};
        for (String one : each) {
            Rig.test("Terms, 24 actions are not too many: " + one, () -> {
                Rig.due("read()", Rig.read("t0:" + Rig.times(23, one)).count(2), 23);
                Rig.due("read()", Rig.read("t0:" + Rig.times(24, one)).count(2), 24);
            });
            Rig.test("Terms, the 25th action is too many: " + one, () -> {
                Rig.dueFault("t0:" + Rig.times(25, one), 4, 3 + 24 * one.length());
                Rig.dueFault("t0:" + Rig.times(26, one), 4, 3 + 24 * one.length());
            });
        }
        Rig.test("Terms, 24 actions in all threads together", () -> {
            String full = "t0:" + Rig.times(6, "f;") + "t1:" + Rig.times(6, "f;") + "t2:" + Rig.times(6, "f;");
            Rig.due("read()", Rig.read(full + "t3:" + Rig.times(6, "f;")).count(2), 24);
            Rig.dueFault(full + "t3:" + Rig.times(7, "f;"), 4, full.length() + 15);
            Rig.dueFault("t0:" + Rig.times(24, "f;") + "t1:f;", 4, 54);
        });
        Rig.test("Terms, threads and a condition may come behind 24 actions", () -> {
            LitmusRows x = Rig.read("t0:" + Rig.times(24, "f;") + "t1:t2:t3:exists(a=1)");
            Rig.due("threads", x.count(1), 4);
            Rig.due("terms", x.count(3), 1);
        });
    }

    private static void numbers() {
        Rig.test("Terms, 0 and 99 are numbers, of a write", () -> {
            LitmusRows x = Rig.read("t0:w a 0;w a 99;");
            Rig.due("0", x.action(0, 3), 0);
            Rig.due("99", x.action(1, 3), 99);
        });
        Rig.test("Terms, 0 and 99 are numbers, of a term", () -> {
            LitmusRows x = Rig.read("t0:r a r0;exists(a=0&a=99&t0:r0=0&t0:r0=99)");
            for (int k = 0; k < 4; k++) {
                Rig.due("term " + k, x.term(k, 2), k % 2 * 99);
            }
        });
        Rig.test("Terms, fault 3: 100, of a write", () -> {
            Rig.dueFault("t0:w a 100;", 3, 7);
            Rig.dueFault("t0:w a 101;", 3, 7);
            Rig.dueFault("t0:w a 100", 3, 7);
        });
        Rig.test("Terms, fault 3: 100, of a term", () -> {
            Rig.dueFault("t0:exists(a=100)", 3, 12);
            Rig.dueFault("t0:r a r0;exists(t0:r0=100)", 3, 23);
        });
        Rig.test("Terms, fault 3: a number that would wrap around is too great", () -> {
            String[] great = {"128", "255", "256", "257", "355", "32768", "65536", "65537", "2147483647", "2147483648",
                "4294967295", "4294967296", "4294967297", "4294967395", "9223372036854775807", "9223372036854775808",
                "18446744073709551615", "18446744073709551616", "18446744073709551617", Rig.times(1500, "9"),
                "1" + Rig.times(1500, "0")};
            for (String number : great) {
                Rig.dueFault("t0:w a " + number + ";", 3, 7);
                Rig.dueFault("t0:exists(a=" + number + ")", 3, 12);
            }
        });
        Rig.test("Terms, fault 2: where no number fits, one above 99 does not either", () -> {
            for (String number : new String[] {"99", "100", "4294967296"}) {
                Rig.dueFault(number, 2, 0);
                Rig.dueFault("t0 " + number, 2, 3);
                Rig.dueFault("t0:" + number, 2, 3);
                Rig.dueFault("t0:w " + number, 2, 5);
                Rig.dueFault("t0:r a " + number, 2, 7);
                Rig.dueFault("t0:f " + number, 2, 5);
                Rig.dueFault("t0:exists(" + number, 2, 10);
                Rig.dueFault("t0:exists(a=1 " + number, 2, 14);
            }
        });
        Rig.test("Terms, noughts before a number change nothing", () -> {
            Rig.dueRead("t0:w a 000;w b 007;w c 0099;", "t0: w a 0; w b 7; w c 99;\n");
            Rig.dueRead("t0:w a " + Rig.times(2000, "0") + "99;", "t0: w a 99;\n");
            Rig.dueFault("t0:w a 0100;", 3, 7);
            Rig.dueFault("t0:w a " + Rig.times(2000, "0") + "100;", 3, 7);
        });
    }

    private static void placesAndRegisters() {
        Rig.test("Terms, places are a to d, no other letter", () -> {
            for (char c = 'a'; c <= 'z'; c++) {
                String[] texts = {"t0:w " + c + " 1;", "t0:r " + c + " r0;", "t0:exists(" + c + "=1)"};
                for (int k = 0; k < 3; k++) {
                    if (c <= 'd') {
                        LitmusRows x = Rig.read(texts[k]);
                        Rig.due(texts[k], k == 2 ? x.term(0, 1) : x.action(0, 2), c - 'a');
                    } else {
                        Rig.dueFault(texts[k], 2, k == 2 ? 10 : 5);
                    }
                }
            }
        });
        Rig.test("Terms, a place has one letter", () -> {
            Rig.dueFault("t0:w ab 1;", 2, 5);
            Rig.dueFault("t0:w a1;", 2, 5);
            Rig.dueFault("t0:r a0 r0;", 2, 5);
            Rig.dueFault("t0:exists(a0=1)", 2, 10);
        });
        Rig.test("Terms, registers are r0 to r9", () -> {
            for (int r = 0; r <= 9; r++) {
                LitmusRows x = Rig.read("t0:r a r" + r + ";exists(t0:r" + r + "=1)");
                Rig.due("register of the action", x.action(0, 3), r);
                Rig.due("register of the term", x.term(0, 1), r);
            }
        });
        Rig.test("Terms, fault 2: what is no register", () -> {
            for (String no : new String[] {"r", "r10", "r00", "r01", "ra", "rr", "q0", "s0", "t0", "a", "0", "r0r"}) {
                Rig.dueFault("t0:r a " + no + ";", 2, 7);
                Rig.dueFault("t0:r a r0;r a r1;exists(t0:" + no + "=1)", 2, 27);
            }
            Rig.dueFault("t0:r a r 0;", 2, 7);
        });
    }

    private static void conditions() {
        Rig.test("Terms, perhaps a condition: none, exists, forall", () -> {
            Rig.due("none", Rig.read("t0:").count(4), 0);
            Rig.due("exists", Rig.read("t0:exists(a=1)").count(4), 1);
            Rig.due("forall", Rig.read("t0:forall(a=1)").count(4), 2);
        });
        Rig.test("Terms, a second condition does not fit", () -> {
            Rig.dueFault("t0:exists(a=1)exists(a=1)", 2, 14);
            Rig.dueFault("t0:forall(a=1)t1:", 2, 14);
            Rig.dueFault("t0:forall(a=1)f;", 2, 14);
        });
        Rig.test("Terms, no term is too few", () -> {
            Rig.dueFault("t0:exists()", 2, 10);
            Rig.dueFault("t0:forall(", 2, 10);
        });
        Rig.test("Terms, one term is enough", () -> Rig.due("terms", Rig.read("t0:exists(a=1)").count(3), 1));
        Rig.test("Terms, 16 terms are not too many", () -> {
            Rig.due("terms", Rig.read("t0:exists(" + Rig.times(14, "a=1&") + "b=2)").count(3), 15);
            Rig.due("terms", Rig.read("t0:exists(" + Rig.times(15, "a=1&") + "b=2)").count(3), 16);
            Rig.due("terms", Rig.read("t0:r a r0;forall(" + Rig.times(15, "t0:r0=1&") + "t0:r0=2)").count(3), 16);
        });
        Rig.test("Terms, the 17th term is too many", () -> {
            Rig.dueFault("t0:exists(" + Rig.times(16, "a=1&") + "b=2)", 4, 10 + 16 * 4);
            Rig.dueFault("t0:exists(" + Rig.times(17, "a=1&") + "b=2)", 4, 10 + 16 * 4);
            Rig.dueFault("t0:r a r0;forall(" + Rig.times(16, "t0:r0=1&") + "t0:r0=2)", 4, 17 + 16 * 8);
        });
        Rig.test("Terms, a term may be told twice, and of one register read twice", () ->
                Rig.dueRead("t0:r a r5;r b r5;exists(t0:r5=1&t0:r5=1&a=2&a=2)",
                        "t0: r a r5; r b r5;\nexists (t0:r5 = 1 & t0:r5 = 1 & a = 2 & a = 2)\n"));
    }

    private static void bytes() {
        Rig.test("Terms, WHITE is 10 and 32 alone", () -> {
            for (int b = 0; b < 256; b++) {
                LitmusRows x = new LitmusRows();
                Rig.feed(x, "t0" + (char) b + ":");
                boolean white = b == 10 || b == 32;
                if (white) {
                    Rig.due("byte " + b, x.read(), 0);
                } else {
                    Rig.dueThrow("byte " + b, IllegalArgumentException.class, x::read);
                }
            }
        });
        Rig.test("Terms, fault 1: which bytes begin no lexeme", () -> {
            for (int b = 0; b < 256; b++) {
                if (b != 10 && b != 32) {
                    boolean letter = b >= 'a' && b <= 'z';
                    boolean begins = letter || b >= '0' && b <= '9' || ":;=&()".indexOf(b) >= 0;
                    boolean action = letter && "wrf".indexOf(b) >= 0;
                    Rig.dueFault("t0:" + (char) b, begins ? 2 : 1, action ? 4 : 3);
                }
            }
        });
        Rig.test("Terms, fault 1: such a byte also ends a name and a number", () -> {
            for (int b : new int[] {0, 9, 11, 13, 31, 33, '/', '<', '@', 'A', 'Z', '[', '_', '`', '{', 127, 128, 138,
                160, 225, 255}) {
                Rig.dueFault("t0" + (char) b + ":", 1, 2);
                Rig.dueFault("t0:w a 1" + (char) b + ";", 1, 8);
                Rig.dueFault("t0:exists(a=1)" + (char) b, 1, 14);
                Rig.dueFault((char) b + "t0:", 1, 0);
            }
        });
        Rig.test("Terms, a full text of 2048 bytes is read to its end", () -> {
            String most = "t0:" + Rig.times(2043, " ");
            Rig.due("its last action", Rig.read(most + "f;").count(2), 1);
            Rig.dueFault(most + "f ", 2, 2048);
            Rig.dueFault(most + "f!", 1, 2047);
            Rig.dueFault(most + " f", 2, 2048);
            Rig.dueFault(most + " t", 2, 2047);
            Rig.dueFault("t0:w a " + Rig.times(2041, "1"), 3, 7);
            Rig.dueFault("t" + Rig.times(2047, "0"), 2, 0);
            Rig.dueFault(Rig.times(2048, "\n"), 2, 2048);
        });
    }

    private static void lexemes() {
        Rig.test("Terms, names are the longest that fit", () -> {
            Rig.dueFault("t0:ff;", 2, 3);
            Rig.dueFault("t0:f1;", 2, 3);
            Rig.dueFault("t0:wa 1;", 2, 3);
            Rig.dueFault("t0:r ar0;", 2, 5);
            Rig.dueFault("t0:existsa(a=1)", 2, 3);
            Rig.dueFault("t0:exists1(a=1)", 2, 3);
            Rig.dueFault("t0t1:", 2, 0);
        });
        Rig.test("Terms, a name begins with a letter: behind a number it is the next lexeme", () -> {
            Rig.dueFault("t0:w a 1f;", 2, 8);
            Rig.dueFault("t0:exists(a=1a)", 2, 13);
            Rig.dueFault("0t:", 2, 0);
        });
        Rig.test("Terms, numbers are the longest", () -> {
            Rig.dueFault("t0:w a 1 1;", 2, 9);
            Rig.dueRead("t0:w a 11;", "t0: w a 11;\n");
        });
        Rig.test("Terms, signs need no white, and may have it", () -> {
            Rig.dueRead("t0:w a 1;exists(a=1&b=2)", "t0: w a 1;\nexists (a = 1 & b = 2)\n");
            Rig.dueRead("\n t0 \n:\nw\na\n1\n; exists\n( a\n=\n1\n& b = 2 \n)\n ",
                    "t0: w a 1;\nexists (a = 1 & b = 2)\n");
        });
        Rig.test("Terms, words are told by where they stand", () -> {
            Rig.dueFault("t0:a;", 2, 3);
            Rig.dueFault("t0:w w 1;", 2, 5);
            Rig.dueFault("t0:r f r0;", 2, 5);
            Rig.dueFault("t0:w exists 1;", 2, 5);
            Rig.dueFault("t0:exists(f=1)", 2, 10);
            Rig.dueFault("t0:exists(exists=1)", 2, 10);
            Rig.dueFault("exists:", 2, 0);
        });
    }

    private static void grammar() {
        String[] text = {"t0", ":", "w", "a", "1", ";", "r", "b", "r0", ";", "f", ";", "exists", "(",
            "t0", ":", "r0", "=", "1", "&", "a", "=", "2", ")"};
        Rig.test("Terms, fault 2: a lexeme that does not fit, at each place of a text", () -> {
            for (int at = 0; at <= text.length; at++) {
                String before = String.join(" ", Arrays.copyOf(text, at)) + " ";
                String right = at < text.length ? text[at] : "";
                for (String no : new String[] {"x", "t9", "r99", "7", "e", ":", ";", "=", "&", "(", ")"}) {
                    boolean number = no.equals("7") && right.matches("[0-9]");
                    boolean behindTerm = no.matches("[&)]") && right.matches("[&)]");
                    if (!no.equals(right) && !number && !behindTerm) {
                        Rig.dueFault(before + no, 2, before.length());
                    }
                }
            }
        });
        Rig.test("Terms, fault 2: the end, at each place where more is due", () -> {
            List<Integer> whole = List.of(2, 6, 10, 12, 24);
            for (int n = 0; n <= text.length; n++) {
                String cut = String.join(" ", Arrays.copyOf(text, n));
                if (whole.contains(n)) {
                    Rig.due("read() of " + cut, Rig.read(cut).fault(0), 0);
                } else {
                    Rig.dueFault(cut, 2, cut.length());
                    Rig.dueFault(cut + " ", 2, cut.length() + 1);
                }
            }
        });
    }

    private static void places() {
        Rig.test("Terms, a fault's place is the first byte of its lexeme", () -> {
            Rig.dueFault("t0:   xyz", 2, 6);
            Rig.dueFault("t0:w a\n\n12345;", 3, 8);
            Rig.dueFault("t0: \n \u00FF", 1, 6);
        });
        Rig.test("Terms, the place of the end is the text's length, white too", () -> {
            Rig.dueFault("t0", 2, 2);
            Rig.dueFault("t0 ", 2, 3);
            Rig.dueFault("t0:f", 2, 4);
            Rig.dueFault("t0:f \n \n", 2, 8);
            Rig.dueFault("t0:exists(a=1", 2, 13);
            Rig.dueFault("t0:exists(a=1   ", 2, 16);
            Rig.dueFault("t0:exists(a=1    ", 2, 17);
        });
    }

    /** Two faults in a text, in both orders: the one before the other is told. */
    private static void firstByPlace() {
        String[] bits = {"", "!", "x", "w a 100;", Rig.times(25, "f;")};
        for (int first = 1; first <= 4; first++) {
            for (int second = 1; second <= 4; second++) {
                int one = first;
                int other = second;
                Rig.test("Terms, the first fault by its place: " + one + " before " + other, () -> Rig.dueFault(
                        "t0: " + bits[one] + " " + bits[other], one, 4 + (one == 3 ? 4 : one == 4 ? 48 : 0)));
            }
        }
        String[] terms = {"", "!=1", "e=1", "a=100", "", "t1:r0=1"};
        for (int first : new int[] {1, 2, 3, 5}) {
            for (int second : new int[] {1, 2, 3, 5}) {
                Rig.test("Terms, the first fault by its place, in a condition: " + first + " before " + second, () ->
                        Rig.dueFault("t0:exists(b=1&" + terms[first] + "&" + terms[second] + ")", first,
                                first == 3 ? 16 : 14));
            }
        }
        Rig.test("Terms, the first fault by its place: fault 5 is ahead of what is behind the thread's name", () -> {
            Rig.dueFault("t0:exists(t1", 5, 10);
            Rig.dueFault("t0:exists(t1!", 5, 10);
            Rig.dueFault("t0:exists(t1 x", 5, 10);
            Rig.dueFault("t0:exists(t1:r10=1)", 5, 10);
            Rig.dueFault("t0:exists(t0:r0", 5, 10);
            Rig.dueFault("t0:exists(t0:r0!", 5, 10);
            Rig.dueFault("t0:exists(t0:r0 x", 5, 10);
            Rig.dueFault("t0:exists(t0:r0=100)", 5, 10);
        });
        Rig.test("Terms, the first fault by its place: before an end that comes too soon", () -> {
            Rig.dueFault("t0:x", 2, 3);
            Rig.dueFault("t0:w a 100", 3, 7);
            Rig.dueFault("t0:" + Rig.times(24, "f;") + "f", 4, 51);
        });
    }

    private static void oneTooMany() {
        String full = "t0:" + Rig.times(24, "f;");
        Rig.test("Terms, fault 4: the 25th action is told by its first lexeme, whatever is behind", () -> {
            for (String word : new String[] {"w", "r", "f"}) {
                for (String behind : new String[] {"", " ", "!", ":", " x", " a", " a 100;"}) {
                    Rig.dueFault(full + " " + word + behind, 4, 52);
                }
            }
        });
        Rig.test("Terms, fault 4: the 25th action only if its first lexeme fits", () -> {
            Rig.dueFault(full + " x", 2, 52);
            Rig.dueFault(full + " ff", 2, 52);
            Rig.dueFault(full + " ;", 2, 52);
            Rig.dueFault(full + " 1", 2, 52);
            Rig.dueFault(full + " F", 1, 52);
        });
        Rig.test("Terms, fault 4: the fifth thread is told by its name, whatever is behind", () -> {
            for (String behind : new String[] {"", " ", "!", ":", ";", " x", ": w a 100;"}) {
                Rig.dueFault("t0:t1:t2:t3: t4" + behind, 4, 13);
                Rig.dueFault(full + "t1:t2:t3: t4" + behind, 4, 61);
            }
        });
        Rig.test("Terms, fault 4: the fifth thread only if its name fits", () -> {
            Rig.dueFault("t0:t1:t2:t3: t5:", 2, 13);
            Rig.dueFault("t0:t1:t2:t3: t40:", 2, 13);
            Rig.dueFault("t0:t1:t2:t3: t3:", 2, 13);
            Rig.dueFault("t0:t1:t2:t3 t4:", 2, 12);
            Rig.dueFault("t0:t1:t2:t3:f t4:", 2, 14);
            Rig.dueFault("t0:t1:t2: t4:", 2, 10);
            Rig.dueFault("t0:t1:t2:t3:exists(a=1) t4:", 2, 24);
        });
        String terms = "t0:r a r0;exists(" + Rig.times(15, "a=1&") + "t0:r0=2";
        int behind = terms.length() + 1;
        Rig.test("Terms, fault 4: the 17th term is told by its first lexeme, whatever is behind", () -> {
            for (String first : new String[] {"a", "d", "t0"}) {
                for (String rest : new String[] {"", "!", ")", " x", ":", "=", "=100)"}) {
                    Rig.dueFault(terms + "&" + first + rest, 4, behind);
                }
            }
        });
        Rig.test("Terms, fault 4: the 17th term is ahead of 5", () -> {
            Rig.dueFault(terms + "&t1:r0=1)", 4, behind);
            Rig.dueFault(terms + "&t3:r0=1)", 4, behind);
            Rig.dueFault(terms + "&t0:r1=1)", 4, behind);
            Rig.dueFault(terms + "&t0:r9=1)", 4, behind);
        });
        Rig.test("Terms, fault 4: the 17th term only if its first lexeme fits", () -> {
            Rig.dueFault(terms + "&", 2, behind);
            Rig.dueFault(terms + "&)", 2, behind);
            Rig.dueFault(terms + "&e=1)", 2, behind);
            Rig.dueFault(terms + "&r0=1)", 2, behind);
            Rig.dueFault(terms + "&t4:r0=1)", 2, behind);
            Rig.dueFault(terms + "&1=1)", 2, behind);
            Rig.dueFault(terms + "&!", 1, behind);
        });
        Rig.test("Terms, fault 4: a sign behind the 16th term that is not & is no 17th term", () -> {
            Rig.dueFault(terms + " a", 2, behind);
            Rig.dueFault(terms + ";", 2, behind - 1);
            Rig.dueFault(terms, 2, behind - 1);
        });
    }

    private static void notInThreads() {
        Rig.test("Terms, fault 5: the last thread there is, and the first there is not", () -> {
            String threads = "";
            for (int t = 0; t < 4; t++) {
                threads += "t" + t + ":r a r0;";
                int name = threads.length() + 7;
                for (int of = 0; of < 4; of++) {
                    String text = threads + "exists(t" + of + ":r0=1)";
                    if (of <= t) {
                        Rig.due("thread of the term", Rig.read(text).term(0, 0), of);
                    } else {
                        Rig.dueFault(text, 5, name);
                    }
                }
            }
        });
        Rig.test("Terms, fault 5: t4 is no such thread, but a name that does not fit", () -> {
            Rig.dueFault("t0:exists(t4:r0=1)", 2, 10);
            Rig.dueFault("t0:t1:t2:t3:exists(t4:r0=1)", 2, 19);
            Rig.dueFault("t0:exists(t9:r0=1)", 2, 10);
            Rig.dueFault("t0:exists(t10:r0=1)", 2, 10);
            Rig.dueFault("t0:exists(t=1)", 2, 10);
        });
        Rig.test("Terms, fault 5: a register that the thread does not read into, told by the thread's name", () -> {
            Rig.dueFault("t0:r a r1;exists(t0:r0=1)", 5, 17);
            Rig.dueFault("t0:r a r1;exists(t0:r2=1)", 5, 17);
            Rig.dueFault("t0:r a r1;exists(t0\n:\nr2=1)", 5, 17);
            Rig.dueFault("t0:w a 1;exists(t0:r1=1)", 5, 16);
            Rig.dueFault("t0:f;exists(t0:r0=1)", 5, 12);
        });
        Rig.test("Terms, fault 5: what another thread reads into does not count", () -> {
            Rig.dueFault("t0:r a r0;t1:r a r1;exists(t0:r1=1)", 5, 27);
            Rig.dueFault("t0:r a r0;t1:r a r1;exists(t1:r0=1)", 5, 27);
            Rig.due("its own", Rig.read("t0:r a r0;t1:r a r1;exists(t0:r0=1&t1:r1=1)").count(3), 2);
        });
        Rig.test("Terms, fault 5: a full program, whose last action reads", () -> {
            String full = "t0:" + Rig.times(23, "f;") + "r a r7;exists(t0:r";
            Rig.due("read()", Rig.read(full + "7=1)").count(3), 1);
            Rig.dueFault(full + "6=1)", 5, 63);
        });
        Rig.test("Terms, fault 5: what the program before read into does not count", () -> {
            LitmusRows x = Rig.read("t0:r a r5;r a r6;t1:r a r7;exists(t0:r5=1)");
            Rig.feed(x, "t0:r a r0;exists(t0:r6=1)");
            Rig.dueThrow("read()", IllegalArgumentException.class, x::read);
            Rig.due("fault(0)", x.fault(0), 5);
            Rig.feed(x, "t0:exists(t0:r0=1)");
            Rig.dueThrow("read()", IllegalArgumentException.class, x::read);
            Rig.due("fault(0)", x.fault(0), 5);
        });
        Rig.test("Terms, fault 5: only if that is a register", () -> {
            Rig.dueFault("t0:exists(t0", 2, 12);
            Rig.dueFault("t0:exists(t0:", 2, 13);
            Rig.dueFault("t0:exists(t0:!", 1, 13);
            Rig.dueFault("t0:exists(t0:r10=1)", 2, 13);
            Rig.dueFault("t0:exists(t0:a=1)", 2, 13);
            Rig.dueFault("t0:exists(t0 r0=1)", 2, 13);
            Rig.dueFault("t0:exists(t0=1)", 2, 12);
        });
        Rig.test("Terms, a place in a condition need not be used by a thread", () ->
                Rig.due("term", Rig.read("t0:exists(d=1)").term(0, 1), 3));
    }
}
