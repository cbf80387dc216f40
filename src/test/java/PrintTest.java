/** Promises 15 to 18: what is printed, and comes as the text again. */
final class PrintTest {
    public static void main(String[] args) {
        printed();
        longest();
        outAndAgain();
        Rig.finish();
    }

    private static void printed() {
        same("t0:\n");
        same("t0: f;\n");
        same("t0: w a 1; r b r0;\nt1:\nt2: w d 99; w c 0; f; f;\nt3: r a r9;\n");
        same("t0: w a 10;\nexists (a = 2)\n");
        same("t0: r a r3;\nforall (t0:r3 = 1 & a = 2 & t0:r3 = 90)\n");
        LitmusRows x = Rig.read("t0:w a 007;exists(a=00&b=09)");
        Rig.due("noughts", Rig.printed(x), "t0: w a 7;\nexists (a = 0 & b = 9)\n");
        Rig.due("count(6)", x.count(6), 34);
    }

    private static void same(String text) {
        LitmusRows x = Rig.read(text);
        Rig.due("printed", Rig.printed(x), text);
    }

    private static void longest() {
        StringBuilder text = new StringBuilder();
        for (int t = 0; t < 4; t++) {
            text.append("t" + t + ":" + Rig.times(5, " w a 99;") + " r d r9;\n");
        }
        text.append("exists (t3:r9 = 99" + Rig.times(15, " & t0:r9 = 10") + ")\n");
        same(text.toString());
        Rig.due("its length", text.length(), 423);
    }

    private static void outAndAgain() {
        LitmusRows x = Rig.read("t0:w a 1;");
        Rig.dueThrow("out(0) before print()", IndexOutOfBoundsException.class, () -> x.out(0));
        Rig.due("print()", x.print(), 11);
        Rig.due("count(6)", x.count(6), 11);
        Rig.due("the text is not touched", x.count(0), 0);
        Rig.due("out(0)", x.out(0), 't');
        Rig.due("out(10)", x.out(10), '\n');
        for (int i : new int[] {-1, 11, 512, Integer.MIN_VALUE, Integer.MAX_VALUE}) {
            Rig.dueThrow("out(" + i + ")", IndexOutOfBoundsException.class, () -> x.out(i));
        }
        Rig.feed(x, "t0: and what is there is gone");
        Rig.due("again()", x.again(), 11);
        Rig.due("count(0)", x.count(0), 11);
        Rig.due("the program stays", x.count(2), 1);
        Rig.due("what was printed stays", x.out(10), '\n');
        Rig.dueThrow("end(16) of eleven", IllegalStateException.class, () -> x.end(16));
        Rig.due("feed behind it", x.feed(0x663B663B, 0x663B663B, 0x663B663B, 0x663B663B), 27);
        Rig.due("end(4)", x.end(4), 15);
        Rig.due("read()", x.read(), 3);
        Rig.due("still printed last", x.count(6), 11);
        Rig.due("again()", x.again(), 11);
        Rig.due("read()", x.read(), 1);
        x.feed(0, 0, 0, 0);
        Rig.dueThrow("read()", IllegalArgumentException.class, x::read);
        Rig.dueThrow("print() without a program", IllegalStateException.class, x::print);
        Rig.due("printed stays", x.count(6), 11);
        Rig.due("out stays", x.out(4), 'w');
        Rig.feed(x, "t0:");
        x.read();
        Rig.due("a shorter one", x.print(), 4);
        Rig.dueThrow("out(4)", IndexOutOfBoundsException.class, () -> x.out(4));
        Rig.due("again()", x.again(), 4);

        LitmusRows y = new LitmusRows();
        y.feed(1, 2, 3, 4);
        Rig.due("again() of nothing", y.again(), 0);
        Rig.due("the text is gone", y.count(0), 0);
    }
}
