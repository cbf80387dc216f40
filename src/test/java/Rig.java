import java.nio.charset.StandardCharsets;

/** What the tests share: calls with the answers that are due, and the count of wrong ones. */
final class Rig {
    /** A call of the face. */
    interface Call {
        long answer();
    }

    private static int wrong = 0;
    private static int told = 0;

    private Rig() {
    }

    static void due(String what, long got, long want) {
        told++;
        if (got != want) {
            complain(what + " answered " + got + ", due is " + want);
        }
    }

    static void due(String what, String got, String want) {
        told++;
        if (!got.equals(want)) {
            complain(what + " answered [" + got + "], due is [" + want + "]");
        }
    }

    static void dueThrow(String what, Class<? extends RuntimeException> want, Call call) {
        told++;
        try {
            complain(what + " answered " + call.answer() + ", due is " + want.getSimpleName());
        } catch (RuntimeException e) {
            if (e.getClass() != want) {
                complain(what + " threw " + e + ", due is " + want.getSimpleName());
            }
        }
    }

    private static void complain(String line) {
        wrong++;
        if (wrong <= 40) {
            System.out.println(line);
        }
    }

    static void finish() {
        System.out.println(told + " answers, " + wrong + " not as due");
        if (wrong != 0) {
            System.exit(1);
        }
    }

    /** Feeds the text behind what is there, sixteen bytes a call, and ends it. */
    static void feed(LitmusRows x, String text) {
        byte[] b = text.getBytes(StandardCharsets.ISO_8859_1);
        for (int i = 0; i < b.length; i += 16) {
            x.feed(word(b, i), word(b, i + 4), word(b, i + 8), word(b, i + 12));
        }
        if (b.length % 16 != 0) {
            x.end(b.length % 16);
        }
    }

    private static int word(byte[] b, int from) {
        int w = 0;
        for (int i = from; i < from + 4; i++) {
            w = (w << 8) | (i < b.length ? b[i] & 0xFF : 0);
        }
        return w;
    }

    /** A new object that has read the text. */
    static LitmusRows read(String text) {
        LitmusRows x = new LitmusRows();
        feed(x, text);
        x.read();
        return x;
    }

    /** Makes the ring's program. */
    static LitmusRows make(int... kinds) {
        LitmusRows x = new LitmusRows();
        for (int kind : kinds) {
            x.edge(kind);
        }
        x.make();
        return x;
    }

    /** Prints the program and collects the bytes. */
    static String printed(LitmusRows x) {
        int n = x.print();
        StringBuilder s = new StringBuilder();
        for (int i = 0; i < n; i++) {
            s.append((char) x.out(i));
        }
        return s.toString();
    }

    static String action(LitmusRows x, int k) {
        return x.action(k, 0) + "," + x.action(k, 1) + "," + x.action(k, 2) + "," + x.action(k, 3);
    }

    static String term(LitmusRows x, int k) {
        return x.term(k, 0) + "," + x.term(k, 1) + "," + x.term(k, 2);
    }

    /** The same short word so many times. */
    static String times(int n, String word) {
        return word.repeat(n);
    }
}
