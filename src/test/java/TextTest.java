/** Promises 1 to 5, 8, 9 and 18: the text, and what is read from it. */
final class TextTest {
    public static void main(String[] args) {
        newObject();
        feedAndEnd();
        readIt();
        forms();
        faults();
        limits();
        afterAFault();
        whatIsGone();
        Rig.finish();
    }

    private static void newObject() {
        LitmusRows x = new LitmusRows();
        for (int what = 0; what <= 7; what++) {
            Rig.due("new: count(" + what + ")", x.count(what), 0);
        }
        Rig.due("count(8)", x.count(8), -1);
        Rig.due("count(-1)", x.count(-1), -1);
        Rig.due("count(least int)", x.count(Integer.MIN_VALUE), -1);
        Rig.due("new: fault(0)", x.fault(0), 0);
        Rig.due("new: fault(1)", x.fault(1), 0);
        Rig.due("new: asked()", x.asked(), -1);
        Rig.due("new: again()", x.again(), 0);
        Rig.dueThrow("new: print()", IllegalStateException.class, x::print);
        Rig.dueThrow("new: fences()", IllegalStateException.class, x::fences);
        Rig.dueThrow("new: make()", IllegalStateException.class, x::make);
        Rig.dueThrow("new: place(0)", IllegalArgumentException.class, () -> x.place(0));
        Rig.dueThrow("new: judge", IllegalStateException.class, () -> x.judge(true));
        Rig.dueThrow("new: action", IndexOutOfBoundsException.class, () -> x.action(0, 0));
        Rig.dueThrow("new: term", IndexOutOfBoundsException.class, () -> x.term(0, 0));
        Rig.dueThrow("new: least", IndexOutOfBoundsException.class, () -> x.least(0));
        Rig.dueThrow("new: out", IndexOutOfBoundsException.class, () -> x.out(0));
        Rig.dueThrow("new: end(16)", IllegalStateException.class, () -> x.end(16));
        Rig.dueThrow("new: read()", IllegalArgumentException.class, x::read);
        Rig.due("empty text: fault(0)", x.fault(0), 2);
        Rig.due("empty text: fault(1)", x.fault(1), 0);
    }

    private static void feedAndEnd() {
        LitmusRows x = new LitmusRows();
        Rig.dueThrow("end(-1) before the state", IllegalArgumentException.class, () -> x.end(-1));
        Rig.dueThrow("end(17) before the state", IllegalArgumentException.class, () -> x.end(17));
        for (int n = 1; n <= 128; n++) {
            Rig.due("feed " + n, x.feed(0x20202020, -1, 0, Integer.MIN_VALUE), 16L * n);
        }
        Rig.dueThrow("feed beyond 2048", IllegalStateException.class, () -> x.feed(0, 0, 0, 0));
        Rig.due("text stays", x.count(0), 2048);
        Rig.due("end(16)", x.end(16), 2048);
        Rig.due("end(1)", x.end(1), 2033);
        Rig.dueThrow("feed to 2049", IllegalStateException.class, () -> x.feed(0, 0, 0, 0));
        Rig.dueThrow("end(-1)", IllegalArgumentException.class, () -> x.end(-1));
        Rig.dueThrow("end(17)", IllegalArgumentException.class, () -> x.end(17));
        Rig.dueThrow("end(2^31 - 1)", IllegalArgumentException.class, () -> x.end(Integer.MAX_VALUE));
        Rig.due("end(15)", x.end(15), 2032);
        Rig.due("feed to 2048", x.feed(0, 0, 0, 0), 2048);
        Rig.due("end(0)", x.end(0), 2032);
        for (int left = 2016; left >= 0; left -= 16) {
            Rig.due("end(0) again", x.end(0), left);
        }
        Rig.dueThrow("end(0) of nothing", IllegalStateException.class, () -> x.end(0));
        x.feed(1, 2, 3, 4);
        x.end(15);
        Rig.dueThrow("end(16) of fifteen", IllegalStateException.class, () -> x.end(16));

        LitmusRows y = new LitmusRows();
        y.feed(0x74303A20, 0x77206120, 0x37373B0A, 0x723B6620);
        Rig.due("highest byte first", y.end(12), 12);
        Rig.due("read() of it", y.read(), 1);
        Rig.due("its action", Rig.action(y, 0), "0,0,0,77");
        Rig.due("the text is empty then", y.count(0), 0);
    }

    private static void readIt() {
        LitmusRows x = Rig.read("t0: w a 1; r b r0; t1: w b 01; f; r a r9; forall (t0:r0 = 0 & t1:r9=10 & d = 99)");
        String[] actions = {"0,0,0,1", "0,1,1,0", "1,0,1,1", "1,2,-1,-1", "1,1,0,9"};
        String[] terms = {"0,0,0", "1,9,10", "-1,3,99"};
        for (int k = 0; k < actions.length; k++) {
            Rig.due("action " + k, Rig.action(x, k), actions[k]);
        }
        for (int k = 0; k < terms.length; k++) {
            Rig.due("term " + k, Rig.term(x, k), terms[k]);
        }
        int[] counts = {0, 2, 5, 3, 2, 0, 0, 0};
        for (int what = 0; what < counts.length; what++) {
            Rig.due("count(" + what + ")", x.count(what), counts[what]);
        }
        int[] wrong = {-1, 5, 24, Integer.MIN_VALUE, Integer.MAX_VALUE};
        for (int k : wrong) {
            Rig.dueThrow("action(" + k + ", 0)", IndexOutOfBoundsException.class, () -> x.action(k, 0));
            Rig.dueThrow("term(" + k + ", 0)", IndexOutOfBoundsException.class, () -> x.term(k, 0));
            Rig.dueThrow("action(0, " + k + ")", IndexOutOfBoundsException.class, () -> x.action(0, k));
            Rig.dueThrow("term(0, " + k + ")", IndexOutOfBoundsException.class, () -> x.term(0, k));
            Rig.dueThrow("fault(" + k + ")", IndexOutOfBoundsException.class, () -> x.fault(k));
        }
        Rig.dueThrow("action(0, 4)", IndexOutOfBoundsException.class, () -> x.action(0, 4));
        Rig.dueThrow("term(0, 3)", IndexOutOfBoundsException.class, () -> x.term(0, 3));
        Rig.dueThrow("term(3, 0)", IndexOutOfBoundsException.class, () -> x.term(3, 0));
        Rig.dueThrow("fault(2)", IndexOutOfBoundsException.class, () -> x.fault(2));
        Rig.due("no fault", x.fault(0), 0);
    }

    /** Texts without a fault, each with what is printed of it. */
    private static void forms() {
        String[][] pairs = {
            {"t0:", "t0:\n"},
            {"\n t0 \n : \n", "t0:\n"},
            {"t0:t1:t2:t3:", "t0:\nt1:\nt2:\nt3:\n"},
            {"t0:f;t1:exists(a=0)", "t0: f;\nt1:\nexists (a = 0)\n"},
            {"t0:w d 000000000000000000000000000099;", "t0: w d 99;\n"},
            {"t0:w d 00;w a 4294967296;", null},
            {"t0:w a 0;w a007;", null},
            {"t0:r a r5;r b r5;exists(t0:r5=1&t0:r5=2)", "t0: r a r5; r b r5;\nexists (t0:r5 = 1 & t0:r5 = 2)\n"},
            {"t0:r a r5;forall(a=1&a=2)", "t0: r a r5;\nforall (a = 1 & a = 2)\n"},
            {"t0:w a 1\n;f\n;", "t0: w a 1; f;\n"},
            {"t0:w a 5;exists(a=1\n)\n\n ", "t0: w a 5;\nexists (a = 1)\n"},
        };
        for (String[] pair : pairs) {
            LitmusRows x = new LitmusRows();
            Rig.feed(x, pair[0]);
            if (pair[1] == null) {
                Rig.dueThrow("read of " + pair[0], IllegalArgumentException.class, x::read);
            } else {
                x.read();
                Rig.due("fault of " + pair[0], x.fault(0), 0);
                Rig.due("printed " + pair[0], Rig.printed(x), pair[1]);
            }
        }
    }

    private static void faults() {
        fault("", 2, 0);
        fault("  \n", 2, 3);
        fault("t", 2, 0);
        fault("t1:", 2, 0);
        fault("t00:", 2, 0);
        fault("exists (a = 1)", 2, 0);
        fault("f;", 2, 0);
        fault("t0", 2, 2);
        fault("t0 ", 2, 3);
        fault("t0;", 2, 2);
        fault("t 0:", 2, 0);
        fault("t0: t0:", 2, 4);
        fault("t0: t2:", 2, 4);
        fault("t0: t4:", 2, 4);
        fault("t0: f", 2, 5);
        fault("t0: f  \n", 2, 8);
        fault("t0: f f;", 2, 6);
        fault("t0: f t1:", 2, 6);
        fault("t0: ff;", 2, 4);
        fault("t0: z;", 2, 4);
        fault("t0: ;", 2, 4);
        fault("t0: r0;", 2, 4);
        fault("t0: 100;", 2, 4);
        fault("t0: w", 2, 5);
        fault("t0: w e 1;", 2, 6);
        fault("t0: w aa 1;", 2, 6);
        fault("t0: w a1;", 2, 6);
        fault("t0: w 100 1;", 2, 6);
        fault("t0: w a r1;", 2, 8);
        fault("t0: w a 1 1;", 2, 10);
        fault("t0: w a 1w;", 2, 9);
        fault("t0: r a 0;", 2, 8);
        fault("t0: r a 100;", 2, 8);
        fault("t0: r a r;", 2, 8);
        fault("t0: r a r00;", 2, 8);
        fault("t0: r a ra;", 2, 8);
        fault("t0: r a t0;", 2, 8);
        fault("T0:", 1, 0);
        fault("t0:\t", 1, 3);
        fault("t0:\r\n", 1, 3);
        fault("t0:\0", 1, 3);
        fault("t0: \u00E1", 1, 4);
        fault("t0: \u00FF", 1, 4);
        fault("t0: w a -1;", 1, 8);
        fault("t0_:", 1, 2);
        fault("t0: w a 1{;", 1, 9);
        fault("t0: w a 1`;", 1, 9);
        fault("t0: w a 1/;", 1, 9);
        fault("t0: x; !", 2, 4);
        fault("t0: w a 100;", 3, 8);
        fault("t0: w a 100", 3, 8);
        fault("t0: w a 00100;", 3, 8);
        fault("t0: w a 4294967297;", 3, 8);
        fault("t0: w a 18446744073709551617;", 3, 8);
        fault("t0: exists", 2, 10);
        fault("t0: exists a = 1", 2, 11);
        fault("t0: exists ()", 2, 12);
        fault("t0: exists (", 2, 12);
        fault("t0: existsa (", 2, 4);
        fault("t0: exist (a=1)", 2, 4);
        fault("t0: exists (e=1)", 2, 12);
        fault("t0: exists (r0=1)", 2, 12);
        fault("t0: exists (1=1)", 2, 12);
        fault("t0: exists (a:r0=1)", 2, 13);
        fault("t0: exists (a 1)", 2, 14);
        fault("t0: exists (a = b)", 2, 16);
        fault("t0: exists (a = 100)", 3, 16);
        fault("t0: exists (a = 1", 2, 17);
        fault("t0: exists (a = 1;", 2, 17);
        fault("t0: exists (a = 1 &)", 2, 19);
        fault("t0: exists (a = 1 & & b = 1)", 2, 20);
        fault("t0: exists (a = 1) f;", 2, 19);
        fault("t0: exists (a = 1) forall (a = 1)", 2, 19);
        fault("t0: exists (a = 1) )", 2, 19);
        fault("t0: exists (a = 1) #", 1, 19);
        fault("t0: exists (t1:r0 = 1)", 5, 12);
        fault("t0: exists (t3!", 5, 12);
        fault("t0: exists (t4:r0 = 1)", 2, 12);
        fault("t0: exists (t00:r0 = 1)", 2, 12);
        fault("t0: exists (t0:r0 = 1)", 5, 12);
        fault("t0: exists (t0:r0 !", 5, 12);
        fault("t0: exists (t0:r10 = 1)", 2, 15);
        fault("t0: exists (t0:a = 1)", 2, 15);
        fault("t0: exists (t0:!", 1, 15);
        fault("t0: exists (t0", 2, 14);
        fault("t0: exists (t0:", 2, 15);
        fault("t0: exists (t0=r0)", 2, 14);
        fault("t0: r a r1; t1: r a r2; exists (t0:r1 = 1 & t0:r2 = 1)", 5, 44);
        fault("t0: r a r1; t1: r a r2; exists (a = 1 & t1 : r1 = 100)", 5, 40);
        fault("t0: r a r1; t1: r a r2; exists (t1:r2 = 100)", 3, 40);
        fault("t0: r a r1; exists (t0:r1)", 2, 25);
        fault("t0: w a 1; exists (t0:r1 = 0)", 5, 19);
    }

    private static void limits() {
        LitmusRows x = Rig.read("t0: " + Rig.times(24, "f;"));
        Rig.due("24 actions", x.count(2), 24);
        fault("t0: " + Rig.times(24, "f;") + " w", 4, 53);
        fault("t0: " + Rig.times(24, "f;") + " r!", 4, 53);
        fault("t0: " + Rig.times(24, "f;") + " x", 2, 53);
        fault("t0: " + Rig.times(24, "f;") + " !", 1, 53);
        fault("t0: " + Rig.times(12, "f;") + "t1:" + Rig.times(13, "f;"), 4, 55);
        LitmusRows full = Rig.read("t0: " + Rig.times(24, "f;") + "t1:t2:t3:exists(a=1)");
        Rig.due("24 actions, more threads", full.count(1), 4);
        fault("t0:t1:t2:t3:t4", 4, 12);
        fault("t0:t1:t2:t3: t4!", 4, 13);
        fault("t0:t1:t2:t3: t5:", 2, 13);
        fault("t0:t1:t2:t3: t44:", 2, 13);
        fault("t0:t1:t2:t3:f; f t4:", 2, 17);
        fault("t0:t1:t2:t4:", 2, 9);
        String sixteen = "t0:r a r0;exists(" + Rig.times(15, "a=1&") + "t0:r0=2";
        Rig.due("16 terms", Rig.read(sixteen + ")").count(3), 16);
        int behind = sixteen.length() + 1;
        fault(sixteen + "&a", 4, behind);
        fault(sixteen + "&d=100)", 4, behind);
        fault(sixteen + "&t0:r0=1)", 4, behind);
        fault(sixteen + "&t3:r0=1)", 4, behind);
        fault(sixteen + "&t0:r7=1)", 4, behind);
        fault(sixteen + "&t4:r0=1)", 2, behind);
        fault(sixteen + "&e=1)", 2, behind);
        fault(sixteen + "&)", 2, behind);
        fault(sixteen + "&*", 1, behind);
        fault(sixteen + "&", 2, behind);

        StringBuilder whole = new StringBuilder("t0:");
        while (whole.length() < 2046) {
            whole.append(whole.length() % 2 == 0 ? ' ' : '\n');
        }
        Rig.due("2048 bytes", Rig.read(whole + "f;").count(2), 1);
        fault(whole + "f ", 2, 2048);
        fault(whole + "f+", 1, 2047);
    }

    private static void afterAFault() {
        LitmusRows x = Rig.read("t0: w a 1; w b 1; exists (a = 2)");
        x.edge(4);
        x.fences();
        x.judge(true);
        String printed = Rig.printed(x);
        Rig.feed(x, "t0: w a 1; w b 101;");
        Rig.dueThrow("read() of a fault", IllegalArgumentException.class, x::read);
        int[] counts = {0, 0, 0, 0, 0, 1, printed.length(), 0};
        for (int what = 0; what < counts.length; what++) {
            Rig.due("after a fault: count(" + what + ")", x.count(what), counts[what]);
        }
        Rig.due("asked()", x.asked(), -1);
        Rig.dueThrow("least(0)", IndexOutOfBoundsException.class, () -> x.least(0));
        Rig.dueThrow("action(0, 0)", IndexOutOfBoundsException.class, () -> x.action(0, 0));
        Rig.dueThrow("term(0, 0)", IndexOutOfBoundsException.class, () -> x.term(0, 0));
        Rig.dueThrow("print()", IllegalStateException.class, x::print);
        Rig.dueThrow("fences()", IllegalStateException.class, x::fences);
        Rig.dueThrow("place(0)", IllegalArgumentException.class, () -> x.place(0));
        Rig.dueThrow("judge", IllegalStateException.class, () -> x.judge(false));
        Rig.due("out(0) stays", x.out(0), 't');
        Rig.due("fault(0)", x.fault(0), 3);
        Rig.due("fault(1)", x.fault(1), 15);
        Rig.due("again()", x.again(), printed.length());
        Rig.due("fault stays", x.fault(0), 3);
        Rig.due("read()", x.read(), 2);
        Rig.due("fault(0) is gone", x.fault(0), 0);
        Rig.due("and its place", x.fault(1), 0);
    }

    /** What end() or a longer text before left behind the text is not read. */
    private static void whatIsGone() {
        cut("t0:f;f;f;t1:t2:f", 13, 2, 12);
        cut("t0: f; w a 1234;", 12, 2, 12);
        cut("t0: f; w a 9999;", 13, 2, 13);
        cut("t0: f; f; w a 1;", 15, 2, 15);
        LitmusRows x = Rig.read("t0: w a 1; w a 2; w a 3; w a 4; exists (a = 1 & b = 2)");
        Rig.feed(x, "t0: w b 5; w b 6;");
        Rig.due("a shorter program", x.read(), 2);
        Rig.due("its gaps", x.fences(), 1);
        Rig.due("its terms", x.count(3), 0);
        Rig.due("its condition", x.count(4), 0);
        Rig.dueThrow("action(2, 0)", IndexOutOfBoundsException.class, () -> x.action(2, 0));
        Rig.due("place(1)", x.place(1), 1);
        Rig.due("printed", Rig.printed(x), "t0: w b 5; f; w b 6;\n");
    }

    private static void cut(String sixteen, int n, int number, int where) {
        LitmusRows x = new LitmusRows();
        Rig.feed(x, sixteen);
        x.end(n);
        Rig.dueThrow("read() of a cut " + sixteen, IllegalArgumentException.class, x::read);
        Rig.due("fault(0) of a cut " + sixteen, x.fault(0), number);
        Rig.due("fault(1) of a cut " + sixteen, x.fault(1), where);
    }

    private static void fault(String text, int number, int where) {
        LitmusRows x = new LitmusRows();
        Rig.feed(x, text);
        Rig.dueThrow("read() of " + text, IllegalArgumentException.class, x::read);
        Rig.due("fault(0) of " + text, x.fault(0), number);
        Rig.due("fault(1) of " + text, x.fault(1), where);
        Rig.due("text is empty behind " + text, x.count(0), 0);
        Rig.due("no threads behind " + text, x.count(1), 0);
        Rig.due("no actions behind " + text, x.count(2), 0);
        Rig.due("no terms behind " + text, x.count(3), 0);
        Rig.due("no condition behind " + text, x.count(4), 0);
    }
}
