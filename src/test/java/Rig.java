import java.nio.charset.StandardCharsets;

/** What the tests share: calls with the answers that are due, and the count of wrong ones. */
final class Rig {
    /** A call of the face. */
    interface Call {
        long answer();
    }

    private static int wrong = 0;
    private static int told = 0;
    private static int tests = 0;
    private static String running = "";

    private Rig() {
    }

    /** A test of its own: it bears the name of the promise, and a sentence of it. */
    static void test(String name, Runnable body) {
        tests++;
        running = name + ": ";
        int toldBefore = told;
        try {
            body.run();
        } catch (RuntimeException e) {
            complain("stopped by " + e);
        }
        if (told == toldBefore) {
            complain("no answer was looked at");
        }
        running = "";
    }

    static void due(String what, long got, long want) {
        told++;
        if (got != want) {
            complain(what + " answered " + got + ", due is " + want);
        }
    }

    static void due(String what, String got, String want) {
        told++;
        if (!got.equals(want)) {
            complain(what + " answered [" + got + "], due is [" + want + "]");
        }
    }

    static void dueThrow(String what, Class<? extends RuntimeException> want, Call call) {
        told++;
        try {
            complain(what + " answered " + call.answer() + ", due is " + want.getSimpleName());
        } catch (RuntimeException e) {
            if (e.getClass() != want) {
                complain(what + " threw " + e + ", due is " + want.getSimpleName());
            }
        }
    }

    private static void complain(String line) {
        wrong++;
        if (wrong <= 40) {
            System.out.println(running + line);
        }
    }

    static void finish() {
        System.out.println((tests == 0 ? "" : tests + " tests, ") + told + " answers, " + wrong + " not as due");
        if (wrong != 0) {
            System.exit(1);
        }
    }

    /** Feeds the text behind what is there, sixteen bytes a call, and ends it. */
    static void feed(LitmusRows x, String text) {
        byte[] b = text.getBytes(StandardCharsets.ISO_8859_1);
        for (int i = 0; i < b.length; i += 16) {
            x.feed(word(b, i), word(b, i + 4), word(b, i + 8), word(b, i + 12));
        }
        if (b.length % 16 != 0) {
            x.end(b.length % 16);
        }
    }

    private static int word(byte[] b, int from) {
        int w = 0;
        for (int i = from; i < from + 4; i++) {
            w = (w << 8) | (i < b.length ? b[i] & 0xFF : 0);
        }
        return w;
    }

    /** A new object that has read the text. */
    static LitmusRows read(String text) {
        LitmusRows x = new LitmusRows();
        feed(x, text);
        x.read();
        return x;
    }

    /** A text that has this fault, at this place. */
    static void dueFault(String text, int number, int where) {
        LitmusRows x = new LitmusRows();
        feed(x, text);
        dueThrow("read() of [" + text + "]", IllegalArgumentException.class, x::read);
        due("fault(0) of [" + text + "]", x.fault(0), number);
        due("fault(1) of [" + text + "]", x.fault(1), where);
    }

    /** A text without a fault, and what is printed of it. */
    static void dueRead(String text, String want) {
        LitmusRows x = new LitmusRows();
        feed(x, text);
        x.read();
        due("fault(0) of [" + text + "]", x.fault(0), 0);
        due("printed of [" + text + "]", printed(x), want);
    }

    /** Tells the edges of a ring. */
    static void tell(LitmusRows x, int... kinds) {
        for (int kind : kinds) {
            x.edge(kind);
        }
    }

    /** A new object that has made the ring's program. */
    static LitmusRows make(int... kinds) {
        LitmusRows x = new LitmusRows();
        tell(x, kinds);
        x.make();
        return x;
    }

    /** All that can be asked without changing it; of the text that is its length alone. */
    static String state(LitmusRows x) {
        StringBuilder s = new StringBuilder("counts");
        for (int what = 0; what <= 7; what++) {
            s.append(' ').append(x.count(what));
        }
        s.append(", fault ").append(x.fault(0)).append(" at ").append(x.fault(1));
        s.append(", asked ").append(x.asked()).append(", known");
        for (int k = 0; hasSet(x, k); k++) {
            s.append(' ').append(x.least(k));
        }
        for (int k = 0; k < x.count(2); k++) {
            s.append(" | ").append(action(x, k));
        }
        for (int k = 0; k < x.count(3); k++) {
            s.append(" & ").append(term(x, k));
        }
        s.append(", printed ");
        for (int i = 0; i < x.count(6); i++) {
            s.append((char) x.out(i));
        }
        return s.toString();
    }

    private static boolean hasSet(LitmusRows x, int k) {
        try {
            x.least(k);
            return true;
        } catch (IndexOutOfBoundsException e) {
            return false;
        }
    }

    /** A call that is refused, and leaves everything as it was. */
    static void dueRefused(String what, Class<? extends RuntimeException> want, LitmusRows x, Call call) {
        String before = state(x);
        dueThrow(what, want, call);
        due("behind " + what, state(x), before);
    }

    /** Prints the program and collects the bytes. */
    static String printed(LitmusRows x) {
        int n = x.print();
        StringBuilder s = new StringBuilder();
        for (int i = 0; i < n; i++) {
            s.append((char) x.out(i));
        }
        return s.toString();
    }

    static String action(LitmusRows x, int k) {
        return x.action(k, 0) + "," + x.action(k, 1) + "," + x.action(k, 2) + "," + x.action(k, 3);
    }

    static String term(LitmusRows x, int k) {
        return x.term(k, 0) + "," + x.term(k, 1) + "," + x.term(k, 2);
    }

    /** The same short word so many times. */
    static String times(int n, String word) {
        return word.repeat(n);
    }
}
