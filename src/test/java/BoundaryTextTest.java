/** Promises 1 to 5, 8 and 9, the boundary cases: a test for each. */
final class BoundaryTextTest {
    private static final int[] FAR = {Integer.MIN_VALUE, Integer.MIN_VALUE + 1, -256, -16, 256, 1 << 16,
        Integer.MAX_VALUE - 1, Integer.MAX_VALUE};

    public static void main(String[] args) {
        newObject();
        feed();
        end();
        read();
        fault();
        action();
        term();
        Rig.finish();
    }

    private static void newObject() {
        Rig.test("Promise 1, a new object has an empty text", () -> {
            LitmusRows x = new LitmusRows();
            Rig.due("count(0)", x.count(0), 0);
            Rig.dueThrow("end(0)", IllegalStateException.class, () -> x.end(0));
            Rig.dueThrow("read()", IllegalArgumentException.class, x::read);
            Rig.due("the end does not fit", x.fault(0), 2);
            Rig.due("and is at 0", x.fault(1), 0);
        });
        Rig.test("Promise 1, a new object has no program", () -> {
            LitmusRows x = new LitmusRows();
            for (int what = 1; what <= 4; what++) {
                Rig.due("count(" + what + ")", x.count(what), 0);
            }
            Rig.dueThrow("action(0, 0)", IndexOutOfBoundsException.class, () -> x.action(0, 0));
            Rig.dueThrow("term(0, 0)", IndexOutOfBoundsException.class, () -> x.term(0, 0));
            Rig.dueThrow("fences()", IllegalStateException.class, x::fences);
            Rig.dueThrow("place(0)", IllegalArgumentException.class, () -> x.place(0));
            Rig.dueThrow("print()", IllegalStateException.class, x::print);
        });
        Rig.test("Promise 1, nothing else is there", () -> {
            LitmusRows x = new LitmusRows();
            for (int what = 5; what <= 7; what++) {
                Rig.due("count(" + what + ")", x.count(what), 0);
            }
            Rig.due("fault(0)", x.fault(0), 0);
            Rig.due("asked()", x.asked(), LitmusRows.NONE);
            Rig.dueThrow("judge(true)", IllegalStateException.class, () -> x.judge(true));
            Rig.dueThrow("least(0)", IndexOutOfBoundsException.class, () -> x.least(0));
            Rig.dueThrow("out(0)", IndexOutOfBoundsException.class, () -> x.out(0));
            Rig.due("again()", x.again(), 0);
            Rig.dueThrow("make()", IllegalStateException.class, x::make);
        });
        Rig.test("Promise 1, two objects have nothing in common", () -> {
            LitmusRows x = Rig.read("t0:w a 1;w b 2;exists(a=1)");
            x.fences();
            x.judge(true);
            x.print();
            x.edge(3);
            x.feed(1, 2, 3, 4);
            LitmusRows y = new LitmusRows();
            Rig.due("the new one", Rig.state(y), "counts 0 0 0 0 0 0 0 0, fault 0 at 0, asked -1, known, printed ");
        });
    }

    private static void feed() {
        Rig.test("Promise 2, sixteen bytes a call, up to 2048", () -> {
            LitmusRows x = new LitmusRows();
            for (int n = 1; n <= 128; n++) {
                Rig.due("feed " + n, x.feed(n, -n, 0, Integer.MIN_VALUE), 16 * n);
                Rig.due("count(0)", x.count(0), 16 * n);
            }
        });
        Rig.test("Promise 2, IllegalStateException for more than 2048", () -> {
            LitmusRows x = fed(128);
            Rig.dueRefused("feed behind 2048", IllegalStateException.class, x, () -> x.feed(0, 0, 0, 0));
            Rig.dueRefused("feed behind 2048", IllegalStateException.class, x, () -> x.feed(-1, -1, -1, -1));
        });
        Rig.test("Promise 2, 2032 bytes and sixteen are 2048, 2033 are too many", () -> {
            for (int n = 1; n <= 15; n++) {
                LitmusRows x = fed(128);
                Rig.due("end", x.end(n), 2032 + n);
                Rig.dueRefused("feed behind " + (2032 + n), IllegalStateException.class, x, () -> x.feed(0, 0, 0, 0));
            }
            LitmusRows x = fed(128);
            Rig.due("end", x.end(0), 2032);
            Rig.due("feed", x.feed(0, 0, 0, 0), 2048);
        });
        Rig.test("Promise 2, a refused feed leaves the text's bytes as they were", () -> {
            LitmusRows x = new LitmusRows();
            Rig.feed(x, "t0:" + Rig.times(2043, " ") + "f;");
            Rig.dueThrow("feed", IllegalStateException.class, () -> x.feed(0, 0, 0, 0));
            Rig.due("read()", x.read(), 1);
            LitmusRows y = new LitmusRows();
            Rig.feed(y, "t0:" + Rig.times(2028, " ") + "f;");
            Rig.dueThrow("feed", IllegalStateException.class, () -> y.feed(0, 0, 0, 0));
            Rig.due("count(0)", y.count(0), 2033);
            Rig.due("read()", y.read(), 1);
        });
        Rig.test("Promise 2, the highest byte of a is first, the lowest of d last", () -> {
            // "t0:w a 7;w b 58;"
            LitmusRows x = new LitmusRows();
            x.feed(0x74303A77, 0x20612037, 0x3B772062, 0x2035383B);
            Rig.due("read()", x.read(), 2);
            Rig.due("action 0", Rig.action(x, 0), "0,0,0,7");
            Rig.due("action 1", Rig.action(x, 1), "0,0,1,58");
        });
        Rig.test("Promise 2, each of the sixteen bytes has its place", () -> {
            for (int at = 0; at < 16; at++) {
                for (int b : new int[] {0x21, 0x7F, 0x80, 0xFF}) {
                    int[] words = {0x20202020, 0x20202020, 0x20202020, 0x20202020};
                    words[at / 4] ^= (0x20 ^ b) << (24 - at % 4 * 8);
                    LitmusRows x = new LitmusRows();
                    x.feed(words[0], words[1], words[2], words[3]);
                    Rig.dueThrow("read()", IllegalArgumentException.class, x::read);
                    Rig.due("fault(0)", x.fault(0), 1);
                    Rig.due("fault(1)", x.fault(1), at);
                }
            }
        });
        Rig.test("Promise 2, the bytes come behind the text, also behind one that was cut", () -> {
            LitmusRows x = new LitmusRows();
            Rig.feed(x, "t0:w a 1");
            Rig.feed(x, "2;");
            x.read();
            Rig.due("action 0", Rig.action(x, 0), "0,0,0,12");
        });
    }

    private static void end() {
        Rig.test("Promise 3, of the last sixteen 0 to 16 count", () -> {
            for (int n = 0; n <= 16; n++) {
                LitmusRows x = fed(1);
                Rig.due("end(" + n + ") of 16", x.end(n), n);
                Rig.due("count(0)", x.count(0), n);
                LitmusRows y = fed(128);
                Rig.due("end(" + n + ") of 2048", y.end(n), 2032 + n);
                Rig.due("count(0)", y.count(0), 2032 + n);
            }
        });
        Rig.test("Promise 3, IllegalArgumentException for -1, 17 and what is far from them", () -> {
            LitmusRows x = fed(2);
            Rig.dueRefused("end(-1)", IllegalArgumentException.class, x, () -> x.end(-1));
            Rig.dueRefused("end(17)", IllegalArgumentException.class, x, () -> x.end(17));
            Rig.dueRefused("end(32)", IllegalArgumentException.class, x, () -> x.end(32));
            for (int n : FAR) {
                Rig.dueRefused("end(" + n + ")", IllegalArgumentException.class, x, () -> x.end(n));
            }
        });
        Rig.test("Promise 3, IllegalStateException for less than sixteen bytes", () -> {
            for (int length = 0; length <= 15; length++) {
                LitmusRows x = fed(1);
                x.end(length);
                for (int n : new int[] {0, length, 16}) {
                    Rig.dueRefused("end(" + n + ") of " + length, IllegalStateException.class, x, () -> x.end(n));
                }
            }
        });
        Rig.test("Promise 3, sixteen bytes are enough", () -> {
            LitmusRows x = fed(1);
            Rig.due("end(16)", x.end(16), 16);
            Rig.due("end(16) again", x.end(16), 16);
            Rig.due("end(15)", x.end(15), 15);
        });
        Rig.test("Promise 3, IllegalArgumentException is ahead of IllegalStateException", () -> {
            LitmusRows x = new LitmusRows();
            Rig.dueRefused("end(-1)", IllegalArgumentException.class, x, () -> x.end(-1));
            Rig.dueRefused("end(17)", IllegalArgumentException.class, x, () -> x.end(17));
            LitmusRows y = fed(1);
            y.end(15);
            Rig.dueRefused("end(-1)", IllegalArgumentException.class, y, () -> y.end(-1));
            Rig.dueRefused("end(17)", IllegalArgumentException.class, y, () -> y.end(17));
        });
        Rig.test("Promise 3, the last sixteen are those of the text, not of the last feed", () -> {
            LitmusRows x = fed(2);
            Rig.due("end(8)", x.end(8), 24);
            Rig.due("end(8) again", x.end(8), 16);
            Rig.due("and again", x.end(8), 8);
            Rig.dueThrow("of eight", IllegalStateException.class, () -> x.end(8));
        });
        Rig.test("Promise 3, the first n of the sixteen stay, the others are gone", () -> {
            String sixteen = "t0:f;f;f;f;f;f;f";
            for (int n = 3; n <= 15; n += 2) {
                LitmusRows x = new LitmusRows();
                Rig.feed(x, sixteen);
                x.end(n);
                Rig.due("read() of " + n, x.read(), (n - 3) / 2);
            }
            for (int n = 4; n <= 16; n += 2) {
                LitmusRows x = new LitmusRows();
                Rig.feed(x, sixteen);
                x.end(n);
                Rig.dueThrow("read() of " + n, IllegalArgumentException.class, x::read);
                Rig.due("the end does not fit", x.fault(0), 2);
                Rig.due("at its length", x.fault(1), n);
            }
        });
        Rig.test("Promise 3, a refused end leaves the text's bytes as they were", () -> {
            LitmusRows x = new LitmusRows();
            x.feed(0x74303A66, 0x3B663B66, 0x3B663B66, 0x3B663B20);
            Rig.dueThrow("end(17)", IllegalArgumentException.class, () -> x.end(17));
            Rig.dueThrow("end(-1)", IllegalArgumentException.class, () -> x.end(-1));
            Rig.due("read()", x.read(), 6);
        });
        Rig.test("Promise 3, end holds for a text that came by again(), too", () -> {
            LitmusRows x = Rig.read("t0:w a 1;f;f;");
            Rig.due("print()", x.print(), 17);
            Rig.due("again()", x.again(), 17);
            Rig.due("end(13)", x.end(13), 14);
            Rig.due("read()", x.read(), 2);
            LitmusRows y = Rig.read("t0:w a 1;");
            y.print();
            Rig.due("again()", y.again(), 11);
            Rig.dueRefused("end(0) of eleven", IllegalStateException.class, y, () -> y.end(0));
        });
    }

    private static void read() {
        Rig.test("Promise 4, it answers how many actions, from 0 to 24", () -> {
            for (int n = 0; n <= 24; n++) {
                LitmusRows x = new LitmusRows();
                Rig.feed(x, "t0:" + Rig.times(n, "f;"));
                Rig.due("read()", x.read(), n);
                Rig.due("count(2)", x.count(2), n);
            }
        });
        Rig.test("Promise 4, the text is empty then", () -> {
            LitmusRows x = new LitmusRows();
            Rig.feed(x, "t0:f;");
            x.read();
            Rig.due("count(0)", x.count(0), 0);
            Rig.dueThrow("read() of the empty text", IllegalArgumentException.class, x::read);
            Rig.due("feed", x.feed(0, 0, 0, 0), 16);
        });
        Rig.test("Promise 4, the text is empty behind a fault, too", () -> {
            LitmusRows x = new LitmusRows();
            Rig.feed(x, "t0:f;x");
            Rig.dueThrow("read()", IllegalArgumentException.class, x::read);
            Rig.due("count(0)", x.count(0), 0);
            Rig.feed(x, "t0:f;");
            Rig.due("read()", x.read(), 1);
        });
        Rig.test("Promise 4, the program before is gone", () -> {
            LitmusRows x = Rig.read("t0:w a 1;r a r1;t1:f;forall(a=1&t0:r1=2)");
            Rig.feed(x, "t0:f;");
            Rig.due("read()", x.read(), 1);
            Rig.due("state", Rig.state(x), "counts 0 1 1 0 0 0 0 0, fault 0 at 0, asked -1, known | 0,2,-1,-1, printed ");
            Rig.dueThrow("action(1, 0)", IndexOutOfBoundsException.class, () -> x.action(1, 0));
            Rig.dueThrow("term(0, 0)", IndexOutOfBoundsException.class, () -> x.term(0, 0));
        });
        Rig.test("Promise 4, the program before is gone by a fault, too, wherever it is", () -> {
            String[] faults = {"", "!", "t0", "t0:f;f", "t0:w a 100;", "t0:" + Rig.times(25, "f;"),
                "t0:t1:t2:t3:t4:", "t0:f;exists(t1:r0=1)", "t0:f;exists(a=1", "t0:f;exists(a=1)x"};
            for (String text : faults) {
                LitmusRows x = Rig.read("t0:w a 1;r a r1;t1:f;forall(a=1&t0:r1=2)");
                Rig.feed(x, text);
                Rig.dueThrow("read()", IllegalArgumentException.class, x::read);
                for (int what = 0; what <= 4; what++) {
                    Rig.due("count(" + what + ") behind " + text, x.count(what), 0);
                }
                Rig.dueThrow("action(0, 0)", IndexOutOfBoundsException.class, () -> x.action(0, 0));
                Rig.dueThrow("term(0, 0)", IndexOutOfBoundsException.class, () -> x.term(0, 0));
                Rig.dueThrow("fences()", IllegalStateException.class, x::fences);
                Rig.dueThrow("place(0)", IllegalArgumentException.class, () -> x.place(0));
                Rig.dueThrow("print()", IllegalStateException.class, x::print);
            }
        });
        Rig.test("Promise 4, neither a ring that is being told nor what was printed is gone", () -> {
            for (String text : new String[] {"t0:f;", "t0:f"}) {
                LitmusRows x = Rig.read("t0:");
                x.print();
                Rig.tell(x, 4, 1, 4);
                Rig.feed(x, text);
                if (text.equals("t0:f")) {
                    Rig.dueThrow("read()", IllegalArgumentException.class, x::read);
                } else {
                    Rig.due("read()", x.read(), 1);
                }
                Rig.due("count(5)", x.count(5), 3);
                Rig.due("count(6)", x.count(6), 4);
                Rig.due("out(2)", x.out(2), ':');
                x.edge(1);
                Rig.due("make()", x.make(), 4);
            }
        });
    }

    private static void fault() {
        Rig.test("Promise 5, what is 0 or 1", () -> {
            LitmusRows x = new LitmusRows();
            Rig.feed(x, "t0:w a 100;");
            Rig.dueThrow("read()", IllegalArgumentException.class, x::read);
            Rig.due("fault(0)", x.fault(0), 3);
            Rig.due("fault(1)", x.fault(1), 7);
        });
        Rig.test("Promise 5, IndexOutOfBoundsException for another what", () -> {
            for (String text : new String[] {"t0:f;", "t0:f"}) {
                LitmusRows x = new LitmusRows();
                Rig.dueRefused("fault(-1)", IndexOutOfBoundsException.class, x, () -> x.fault(-1));
                Rig.dueRefused("fault(2)", IndexOutOfBoundsException.class, x, () -> x.fault(2));
                Rig.feed(x, text);
                if (text.equals("t0:f")) {
                    Rig.dueThrow("read()", IllegalArgumentException.class, x::read);
                } else {
                    x.read();
                }
                Rig.dueRefused("fault(-1)", IndexOutOfBoundsException.class, x, () -> x.fault(-1));
                Rig.dueRefused("fault(2)", IndexOutOfBoundsException.class, x, () -> x.fault(2));
                for (int what : FAR) {
                    Rig.dueRefused("fault(" + what + ")", IndexOutOfBoundsException.class, x, () -> x.fault(what));
                }
            }
        });
        Rig.test("Promise 5, 0 when the latest read() had none", () -> {
            LitmusRows x = new LitmusRows();
            Rig.due("before any read()", x.fault(0), 0);
            Rig.feed(x, "t0:");
            x.read();
            Rig.due("behind a read()", x.fault(0), 0);
        });
        Rig.test("Promise 5, the latest read() counts", () -> {
            LitmusRows x = new LitmusRows();
            String[] texts = {"!", "t0:", "t0:w a 100;", "t0:exists(t1:r0=1)", "t0:f;", "x"};
            int[] numbers = {1, 0, 3, 5, 0, 2};
            int[] wheres = {0, 0, 7, 10, 0, 0};
            for (int k = 0; k < texts.length; k++) {
                Rig.feed(x, texts[k]);
                if (numbers[k] == 0) {
                    x.read();
                } else {
                    Rig.dueThrow("read()", IllegalArgumentException.class, x::read);
                }
                Rig.due("fault(0) of " + texts[k], x.fault(0), numbers[k]);
                Rig.due("fault(1) of " + texts[k], x.fault(1), wheres[k]);
            }
        });
        Rig.test("Promise 5, no other call touches it", () -> {
            LitmusRows x = new LitmusRows();
            Rig.feed(x, "t0:x");
            Rig.dueThrow("read()", IllegalArgumentException.class, x::read);
            Rig.dueThrow("make()", IllegalStateException.class, x::make);
            Rig.feed(x, "t0:");
            Rig.tell(x, 4, 1, 4, 1);
            x.make();
            x.fences();
            x.judge(true);
            x.place(1);
            x.print();
            x.again();
            Rig.due("fault(0)", x.fault(0), 2);
            Rig.due("fault(1)", x.fault(1), 3);
        });
    }

    private static void action() {
        Rig.test("Promise 8, from action 0 to the last one, what from 0 to 3", () -> {
            LitmusRows x = Rig.read("t0:w a 0;w d 99;r a r0;t1:r d r9;f;");
            String[] want = {"0,0,0,0", "0,0,3,99", "0,1,0,0", "1,1,3,9", "1,2,-1,-1"};
            for (int k = 0; k < want.length; k++) {
                Rig.due("action " + k, Rig.action(x, k), want[k]);
            }
        });
        Rig.test("Promise 8, IndexOutOfBoundsException, when there is no such action", () -> {
            LitmusRows x = Rig.read("t0:w a 0;w d 99;r a r0;t1:r d r9;f;");
            for (int what = 0; what <= 3; what++) {
                int w = what;
                Rig.dueRefused("action(-1)", IndexOutOfBoundsException.class, x, () -> x.action(-1, w));
                Rig.dueRefused("action(5)", IndexOutOfBoundsException.class, x, () -> x.action(5, w));
            }
            Rig.dueRefused("action(24)", IndexOutOfBoundsException.class, x, () -> x.action(24, 0));
            for (int k : FAR) {
                Rig.dueThrow("action(" + k + ", 0)", IndexOutOfBoundsException.class, () -> x.action(k, 0));
            }
        });
        Rig.test("Promise 8, IndexOutOfBoundsException for another what", () -> {
            LitmusRows x = Rig.read("t0:w a 0;w d 99;r a r0;t1:r d r9;f;");
            for (int k = 0; k < 5; k++) {
                int at = k;
                Rig.dueThrow("action(.., -1)", IndexOutOfBoundsException.class, () -> x.action(at, -1));
                Rig.dueThrow("action(.., 4)", IndexOutOfBoundsException.class, () -> x.action(at, 4));
            }
            for (int what : FAR) {
                Rig.dueThrow("action(0, " + what + ")", IndexOutOfBoundsException.class, () -> x.action(0, what));
            }
            Rig.dueThrow("action(5, 4)", IndexOutOfBoundsException.class, () -> x.action(5, 4));
        });
        Rig.test("Promise 8, the last action of a full program", () -> {
            LitmusRows x = Rig.read("t0:" + Rig.times(23, "f;") + "t1:r d r9;");
            Rig.due("action 23", Rig.action(x, 23), "1,1,3,9");
            Rig.dueThrow("action(24, 0)", IndexOutOfBoundsException.class, () -> x.action(24, 0));
        });
        Rig.test("Promise 8, a program without actions has none", () -> {
            LitmusRows x = Rig.read("t0:t1:");
            Rig.dueThrow("action(0, 0)", IndexOutOfBoundsException.class, () -> x.action(0, 0));
            Rig.dueThrow("action(-1, 0)", IndexOutOfBoundsException.class, () -> x.action(-1, 0));
        });
        Rig.test("Promise 8, the threads of actions, also behind a thread without any", () -> {
            LitmusRows x = Rig.read("t0:t1:f;t2:t3:f;f;");
            int[] threads = {1, 3, 3};
            for (int k = 0; k < 3; k++) {
                Rig.due("thread of " + k, x.action(k, 0), threads[k]);
            }
        });
    }

    private static void term() {
        Rig.test("Promise 9, from term 0 to the last one, what from 0 to 2", () -> {
            LitmusRows x = Rig.read("t0:r a r0;t1:t2:t3:r a r9;exists(t0:r0=0&t3:r9=99&a=0&d=99)");
            String[] want = {"0,0,0", "3,9,99", "-1,0,0", "-1,3,99"};
            for (int k = 0; k < want.length; k++) {
                Rig.due("term " + k, Rig.term(x, k), want[k]);
            }
        });
        Rig.test("Promise 9, IndexOutOfBoundsException, when there is no such term", () -> {
            LitmusRows x = Rig.read("t0:r a r0;f;f;f;exists(t0:r0=0&a=0)");
            for (int what = 0; what <= 2; what++) {
                int w = what;
                Rig.dueRefused("term(-1)", IndexOutOfBoundsException.class, x, () -> x.term(-1, w));
                Rig.dueRefused("term(2)", IndexOutOfBoundsException.class, x, () -> x.term(2, w));
            }
            Rig.dueRefused("term(16)", IndexOutOfBoundsException.class, x, () -> x.term(16, 0));
            for (int k : FAR) {
                Rig.dueThrow("term(" + k + ", 0)", IndexOutOfBoundsException.class, () -> x.term(k, 0));
            }
        });
        Rig.test("Promise 9, IndexOutOfBoundsException for another what", () -> {
            LitmusRows x = Rig.read("t0:r a r0;f;f;f;exists(t0:r0=0&a=0)");
            for (int k = 0; k < 2; k++) {
                int at = k;
                Rig.dueThrow("term(.., -1)", IndexOutOfBoundsException.class, () -> x.term(at, -1));
                Rig.dueThrow("term(.., 3)", IndexOutOfBoundsException.class, () -> x.term(at, 3));
            }
            for (int what : FAR) {
                Rig.dueThrow("term(0, " + what + ")", IndexOutOfBoundsException.class, () -> x.term(0, what));
            }
            Rig.dueThrow("term(2, 3)", IndexOutOfBoundsException.class, () -> x.term(2, 3));
        });
        Rig.test("Promise 9, the last of sixteen terms", () -> {
            LitmusRows x = Rig.read("t0:exists(" + Rig.times(15, "a=1&") + "d=98)");
            Rig.due("term 15", Rig.term(x, 15), "-1,3,98");
            Rig.dueThrow("term(16, 0)", IndexOutOfBoundsException.class, () -> x.term(16, 0));
        });
        Rig.test("Promise 9, without a condition there is none", () -> {
            LitmusRows x = Rig.read("t0:r a r0;");
            Rig.dueThrow("term(0, 0)", IndexOutOfBoundsException.class, () -> x.term(0, 0));
            Rig.dueThrow("term(-1, 0)", IndexOutOfBoundsException.class, () -> x.term(-1, 0));
        });
    }

    /** A new object that was fed so many times. */
    private static LitmusRows fed(int times) {
        LitmusRows x = new LitmusRows();
        for (int n = 0; n < times; n++) {
            x.feed(0x20202020, 0x20202020, 0x20202020, 0x20202020);
        }
        return x;
    }
}
