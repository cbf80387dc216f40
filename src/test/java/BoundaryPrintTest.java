/** Promises 15 to 18 and what is PRINTED in 'Terms', the boundary cases: a test for each. */
final class BoundaryPrintTest {
    private static final int[] FAR = {Integer.MIN_VALUE, -256, -8, 512, 1 << 16, Integer.MAX_VALUE};

    public static void main(String[] args) {
        lines();
        print();
        out();
        again();
        count();
        Rig.finish();
    }

    private static void lines() {
        Rig.test("Terms, a thread without actions is printed without a blank behind it", () -> {
            Rig.dueRead("t0:", "t0:\n");
            Rig.dueRead("t0:t1:f;t2:", "t0:\nt1: f;\nt2:\n");
        });
        Rig.test("Terms, four threads, one a line, 10 behind each", () ->
                Rig.dueRead("t0:t1:t2:t3:", "t0:\nt1:\nt2:\nt3:\n"));
        Rig.test("Terms, each action has ; behind it, a blank between", () ->
                Rig.dueRead("t0:w a 1;r b r0;f;f;", "t0: w a 1; r b r0; f; f;\n"));
        Rig.test("Terms, the least and the greatest of places, registers and numbers are printed", () ->
                Rig.dueRead("t0:w a 0;w d 99;r a r0;r d r9;exists(a=0&d=99&t0:r0=0&t0:r9=99)",
                        "t0: w a 0; w d 99; r a r0; r d r9;\nexists (a = 0 & d = 99 & t0:r0 = 0 & t0:r9 = 99)\n"));
        Rig.test("Terms, numbers of one figure and of two, without noughts before", () -> {
            for (int n = 0; n <= 99; n++) {
                Rig.dueRead("t0:w a 00" + n + ";exists(a=000" + n + ")", "t0: w a " + n + ";\nexists (a = " + n + ")\n");
            }
        });
        Rig.test("Terms, a condition is a line: with one term, with two, with sixteen", () -> {
            Rig.dueRead("t0:exists(a=2)", "t0:\nexists (a = 2)\n");
            Rig.dueRead("t0:forall(a=2&b=3)", "t0:\nforall (a = 2 & b = 3)\n");
            Rig.dueRead("t0:exists(" + Rig.times(15, "a=2&") + "d=3)",
                    "t0:\nexists (" + Rig.times(15, "a = 2 & ") + "d = 3)\n");
        });
        Rig.test("Terms, without a condition no line is printed", () -> Rig.dueRead("t0:f;\n\n", "t0: f;\n"));
        Rig.test("Terms, the example of the document", () -> {
            Rig.dueRead("t0:w a 1;r b r0;t1:exists(t0:r0=1&a=2)",
                    "t0: w a 1; r b r0;\nt1:\nexists (t0:r0 = 1 & a = 2)\n");
        });
    }

    private static void print() {
        Rig.test("Promise 15, it answers how many bytes, of the shortest program", () -> {
            LitmusRows x = Rig.read("t0:");
            Rig.due("print()", x.print(), 4);
            Rig.due("count(6)", x.count(6), 4);
        });
        Rig.test("Promise 15, it answers how many bytes, of the longest program", () -> {
            String threads = "";
            for (int t = 0; t < 4; t++) {
                threads += "t" + t + ":" + Rig.times(5, " w d 99;") + " r d r9;\n";
            }
            String text = threads + "exists (" + Rig.times(15, "t3:r9 = 99 & ") + "t0:r9 = 98)\n";
            LitmusRows x = Rig.read(text);
            Rig.due("print()", x.print(), text.length());
            Rig.due("count(6)", x.count(6), 423);
            Rig.due("the last byte but one", x.out(421), ')');
            Rig.due("the last byte", x.out(422), '\n');
            Rig.due("the last number", x.out(420), '8');
            Rig.dueThrow("out(423)", IndexOutOfBoundsException.class, () -> x.out(423));
        });
        Rig.test("Promise 15, a full program of reads and a full one of fences", () -> {
            Rig.dueRead("t0:" + Rig.times(24, "r a r0;"), "t0:" + Rig.times(24, " r a r0;") + "\n");
            Rig.dueRead("t0:" + Rig.times(24, "f;"), "t0:" + Rig.times(24, " f;") + "\n");
        });
        Rig.test("Promise 15, IllegalStateException, when there is no program", () -> {
            LitmusRows x = new LitmusRows();
            Rig.dueRefused("new: print()", IllegalStateException.class, x, x::print);
            Rig.dueThrow("read()", IllegalArgumentException.class, x::read);
            Rig.dueRefused("print() behind a fault", IllegalStateException.class, x, x::print);
            LitmusRows y = Rig.read("t0:f;");
            y.print();
            y.feed(0, 0, 0, 0);
            Rig.dueThrow("read()", IllegalArgumentException.class, y::read);
            Rig.dueRefused("print() behind a fault", IllegalStateException.class, y, y::print);
            Rig.due("what was printed before stays", y.count(6), 7);
        });
        Rig.test("Promise 15, print changes nothing but what was printed", () -> {
            LitmusRows x = Rig.read("t0:w a 1;w b 1;exists(a=1)");
            x.fences();
            x.judge(false);
            x.edge(3);
            x.feed(0, 0, 0, 0);
            String before = Rig.state(x);
            x.print();
            Rig.due("state", Rig.state(x), before.replace("counts 16 1 2 1 1 1 0", "counts 16 1 2 1 1 1 33")
                    + "t0: w a 1; w b 1;\nexists (a = 1)\n");
        });
        Rig.test("Promise 15, a shorter program leaves nothing of a longer one", () -> {
            LitmusRows x = Rig.read("t0:w a 1;w b 1;exists(a=1)");
            x.print();
            Rig.feed(x, "t0:");
            x.read();
            Rig.due("print()", x.print(), 4);
            Rig.due("count(6)", x.count(6), 4);
            Rig.dueThrow("out(4)", IndexOutOfBoundsException.class, () -> x.out(4));
        });
        Rig.test("Promise 15, printed again it is the same", () -> {
            LitmusRows x = Rig.read("t0:w a 1;w b 1;exists(a=1)");
            String first = Rig.printed(x);
            Rig.due("printed", Rig.printed(x), first);
        });
    }

    private static void out() {
        Rig.test("Promise 16, from byte 0 to the last one", () -> {
            LitmusRows x = Rig.read("t0:f;");
            Rig.due("print()", x.print(), 7);
            String want = "t0: f;\n";
            for (int i = 0; i < 7; i++) {
                Rig.due("out(" + i + ")", x.out(i), want.charAt(i));
            }
        });
        Rig.test("Promise 16, IndexOutOfBoundsException, when there is no such byte", () -> {
            LitmusRows x = Rig.read("t0:f;");
            x.print();
            Rig.dueRefused("out(-1)", IndexOutOfBoundsException.class, x, () -> x.out(-1));
            Rig.dueRefused("out(7)", IndexOutOfBoundsException.class, x, () -> x.out(7));
            for (int i : FAR) {
                Rig.dueRefused("out(" + i + ")", IndexOutOfBoundsException.class, x, () -> x.out(i));
            }
        });
        Rig.test("Promise 16, IndexOutOfBoundsException, when nothing was printed", () -> {
            LitmusRows x = new LitmusRows();
            Rig.dueRefused("new: out(0)", IndexOutOfBoundsException.class, x, () -> x.out(0));
            Rig.feed(x, "t0:f;");
            x.read();
            Rig.dueRefused("out(0)", IndexOutOfBoundsException.class, x, () -> x.out(0));
            Rig.dueRefused("out(-1)", IndexOutOfBoundsException.class, x, () -> x.out(-1));
        });
        Rig.test("Promise 16, what was printed last stays, whatever becomes of the program", () -> {
            LitmusRows x = Rig.read("t0:f;w a 1;w a 2;");
            String want = Rig.printed(x);
            x.place(1);
            dueOut(x, want);
            Rig.tell(x, 4, 1, 4, 1);
            x.make();
            dueOut(x, want);
            Rig.feed(x, "t0:");
            x.read();
            dueOut(x, want);
            Rig.dueThrow("read()", IllegalArgumentException.class, x::read);
            dueOut(x, want);
            Rig.dueThrow("print()", IllegalStateException.class, x::print);
            dueOut(x, want);
            x.again();
            dueOut(x, want);
            x.feed(0, 0, 0, 0);
            dueOut(x, want);
        });
        Rig.test("Promise 16, of what was printed twice the last one counts", () -> {
            LitmusRows x = Rig.read("t0:w a 1;w a 2;");
            x.print();
            x.place(1);
            x.print();
            dueOut(x, "t0: w a 1; f; w a 2;\n");
        });
    }

    private static void dueOut(LitmusRows x, String want) {
        StringBuilder s = new StringBuilder();
        for (int i = 0; i < x.count(6); i++) {
            s.append((char) x.out(i));
        }
        Rig.due("what was printed", s.toString(), want);
    }

    private static void again() {
        Rig.test("Promise 17, when nothing was printed, the text is empty: what is there is gone", () -> {
            LitmusRows x = new LitmusRows();
            Rig.due("new: again()", x.again(), 0);
            Rig.feed(x, "t0:f;");
            Rig.due("again()", x.again(), 0);
            Rig.due("count(0)", x.count(0), 0);
            Rig.dueThrow("read()", IllegalArgumentException.class, x::read);
            Rig.due("fault(1)", x.fault(1), 0);
        });
        Rig.test("Promise 17, what was printed comes as the text, what is there is gone", () -> {
            LitmusRows x = Rig.read("t0:w a 1;w b 2;exists(a=1)");
            x.print();
            Rig.feed(x, "t0:");
            Rig.due("again()", x.again(), 33);
            Rig.due("count(0)", x.count(0), 33);
            Rig.due("read()", x.read(), 2);
            Rig.due("printed", Rig.printed(x), "t0: w a 1; w b 2;\nexists (a = 1)\n");
        });
        Rig.test("Promise 17, a full text is gone, too", () -> {
            LitmusRows x = Rig.read("t0:f;");
            x.print();
            Rig.feed(x, Rig.times(2048, "x"));
            Rig.due("again()", x.again(), 7);
            Rig.due("read()", x.read(), 1);
        });
        Rig.test("Promise 17, the longest program comes again", () -> {
            String threads = "";
            for (int t = 0; t < 4; t++) {
                threads += "t" + t + ":" + Rig.times(5, " w d 99;") + " r d r9;\n";
            }
            LitmusRows x = Rig.read(threads + "exists (" + Rig.times(15, "t3:r9 = 99 & ") + "t0:r9 = 98)\n");
            x.print();
            Rig.due("again()", x.again(), 423);
            Rig.due("read()", x.read(), 24);
            Rig.due("terms", x.count(3), 16);
            Rig.due("term 15", Rig.term(x, 15), "0,9,98");
            Rig.due("print()", x.print(), 423);
        });
        Rig.test("Promise 17, it can come several times, and stays printed", () -> {
            LitmusRows x = Rig.read("t0:f;");
            x.print();
            for (int n = 0; n < 3; n++) {
                Rig.due("again()", x.again(), 7);
                Rig.due("again() at once", x.again(), 7);
                Rig.due("count(6)", x.count(6), 7);
                Rig.due("read()", x.read(), 1);
            }
        });
        Rig.test("Promise 17, it is a text like another: bytes come behind it", () -> {
            LitmusRows x = Rig.read("t0:f;");
            x.print();
            x.again();
            Rig.feed(x, "w a 7;");
            Rig.due("count(0)", x.count(0), 13);
            Rig.due("read()", x.read(), 2);
            Rig.due("action 1", Rig.action(x, 1), "0,0,0,7");
            Rig.due("what was printed stays", x.count(6), 7);
        });
        Rig.test("Promise 17, again changes nothing but the text", () -> {
            LitmusRows x = Rig.read("t0:w a 1;w b 1;exists(a=1)");
            x.fences();
            x.judge(false);
            x.print();
            x.edge(3);
            String before = Rig.state(x);
            x.again();
            Rig.due("state", Rig.state(x), before.replace("counts 0 ", "counts 33 "));
        });
    }

    private static void count() {
        Rig.test("Promise 18, NONE for another what", () -> {
            LitmusRows x = Rig.read("t0:w a 1;");
            for (int what : new int[] {-1, 8, 9}) {
                Rig.due("count(" + what + ")", x.count(what), -1);
                Rig.due("new: count(" + what + ")", new LitmusRows().count(what), -1);
            }
            for (int what : FAR) {
                Rig.due("count(" + what + ")", x.count(what), -1);
            }
        });
        Rig.test("Promise 18, of a new object 0 for each", () -> {
            for (int what = 0; what <= 7; what++) {
                Rig.due("count(" + what + ")", new LitmusRows().count(what), 0);
            }
        });
        Rig.test("Promise 18, bytes of the text: from 0 to 2048", () -> {
            LitmusRows x = new LitmusRows();
            for (int n = 1; n <= 128; n++) {
                x.feed(0, 0, 0, 0);
                Rig.due("count(0)", x.count(0), 16 * n);
            }
            x.end(3);
            Rig.due("count(0)", x.count(0), 2035);
            Rig.dueThrow("read()", IllegalArgumentException.class, x::read);
            Rig.due("count(0)", x.count(0), 0);
        });
        Rig.test("Promise 18, threads: from 1 to 4, 0 without a program", () -> {
            String text = "";
            for (int t = 0; t < 4; t++) {
                text += "t" + t + ":";
                Rig.due("count(1)", Rig.read(text).count(1), t + 1);
            }
            LitmusRows x = Rig.read(text);
            Rig.dueThrow("read()", IllegalArgumentException.class, x::read);
            Rig.due("count(1)", x.count(1), 0);
        });
        Rig.test("Promise 18, actions: from 0 to 24, also behind place()", () -> {
            for (int n = 0; n <= 24; n++) {
                Rig.due("count(2)", Rig.read("t0:" + Rig.times(n, "w a 1;")).count(2), n);
            }
            LitmusRows x = Rig.read("t0:w a 1;w a 1;");
            x.place(1);
            Rig.due("count(2)", x.count(2), 3);
        });
        Rig.test("Promise 18, terms: from 0 to 16", () -> {
            Rig.due("count(3)", Rig.read("t0:").count(3), 0);
            for (int n = 1; n <= 16; n++) {
                Rig.due("count(3)", Rig.read("t0:exists(" + Rig.times(n - 1, "a=1&") + "a=1)").count(3), n);
            }
        });
        Rig.test("Promise 18, condition: 0 none, 1 exists, 2 forall", () -> {
            LitmusRows x = Rig.read("t0:forall(a=1)");
            Rig.due("forall", x.count(4), 2);
            Rig.feed(x, "t0:exists(a=1)");
            x.read();
            Rig.due("exists", x.count(4), 1);
            Rig.feed(x, "t0:");
            x.read();
            Rig.due("none", x.count(4), 0);
        });
        Rig.test("Promise 18, edges told: from 0 to 12", () -> {
            LitmusRows x = new LitmusRows();
            for (int n = 1; n <= 12; n++) {
                x.edge(0);
                Rig.due("count(5)", x.count(5), n);
            }
        });
        Rig.test("Promise 18, bytes printed", () -> {
            LitmusRows x = Rig.read("t0:");
            Rig.due("before", x.count(6), 0);
            x.print();
            Rig.due("behind", x.count(6), 4);
        });
        Rig.test("Promise 18, sets judged since fences()", () -> {
            LitmusRows x = Rig.read("t0:w a 1;w a 1;w a 1;");
            Rig.due("before fences()", x.count(7), 0);
            x.fences();
            for (int n = 0; n < 4; n++) {
                Rig.due("count(7)", x.count(7), n);
                x.judge(n == 3);
            }
            Rig.due("all", x.count(7), 4);
            Rig.dueThrow("judge(true)", IllegalStateException.class, () -> x.judge(true));
            Rig.due("a refused one does not count", x.count(7), 4);
            x.fences();
            Rig.due("fences() again", x.count(7), 0);
        });
        Rig.test("Promise 18, sets that are not asked are not judged", () -> {
            LitmusRows x = Rig.read("t0:w a 1;w a 1;w a 1;");
            x.fences();
            x.judge(true);
            Rig.due("count(7)", x.count(7), 1);
        });
        Rig.test("Promise 18, sets judged are 0 with a new program, by read() and by make()", () -> {
            LitmusRows x = Rig.read("t0:w a 1;w a 1;w a 1;");
            x.fences();
            x.judge(false);
            Rig.tell(x, 4, 1, 4, 1);
            Rig.feed(x, "t0:w a 1;");
            Rig.due("before", x.count(7), 1);
            x.read();
            Rig.due("behind read()", x.count(7), 0);
            x.fences();
            x.judge(false);
            Rig.due("before", x.count(7), 1);
            x.make();
            Rig.due("behind make()", x.count(7), 0);
        });
        Rig.test("Promise 18, sets judged stay with place(): the program is not a new one", () -> {
            LitmusRows x = Rig.read("t0:w a 1;w a 1;w a 1;");
            x.fences();
            x.judge(false);
            x.place(0);
            Rig.due("behind place(0)", x.count(7), 1);
            x.place(3);
            Rig.due("behind place(3)", x.count(7), 1);
            x.fences();
            Rig.due("behind fences()", x.count(7), 0);
        });
        Rig.test("Promise 18, sets judged are 0, when a fault takes the program", () -> {
            LitmusRows x = Rig.read("t0:w a 1;w a 1;w a 1;");
            x.fences();
            x.judge(false);
            Rig.dueThrow("read()", IllegalArgumentException.class, x::read);
            Rig.due("count(7)", x.count(7), 0);
        });
        Rig.test("Promise 18, sets judged stay, when make() makes none", () -> {
            LitmusRows x = Rig.read("t0:w a 1;w a 1;w a 1;");
            x.fences();
            x.judge(false);
            Rig.dueThrow("make()", IllegalStateException.class, x::make);
            Rig.due("count(7)", x.count(7), 1);
        });
    }
}
