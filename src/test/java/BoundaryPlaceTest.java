/** Promise 14, the boundary cases: a test for each. */
final class BoundaryPlaceTest {
    public static void main(String[] args) {
        sets();
        fullPrograms();
        trying();
        Rig.finish();
    }

    private static void sets() {
        Rig.test("Promise 14, it answers how many fences, from none to all gaps", () -> {
            for (int set = 0; set < 16; set++) {
                LitmusRows x = Rig.read("t0:" + Rig.times(5, "w a 1;"));
                Rig.due("place(" + set + ")", x.place(set), Integer.bitCount(set));
                Rig.due("count(2)", x.count(2), 5 + Integer.bitCount(set));
            }
        });
        Rig.test("Promise 14, a fence stands in each gap of the set and in no other", () -> {
            for (int set = 0; set < 8; set++) {
                LitmusRows x = Rig.read("t0:w a 1;r b r0;t1:w a 2;w a 3;r c r9;exists(t1:r9=4)");
                x.place(set);
                String want = "t0: w a 1;" + ((set & 1) != 0 ? " f;" : "") + " r b r0;\nt1: w a 2;"
                        + ((set & 2) != 0 ? " f;" : "") + " w a 3;" + ((set & 4) != 0 ? " f;" : "")
                        + " r c r9;\nexists (t1:r9 = 4)\n";
                Rig.due("place(" + set + ")", Rig.printed(x), want);
            }
        });
        Rig.test("Promise 14, a placed fence is an action of its thread without a place and a number", () -> {
            LitmusRows x = Rig.read("t0:t1:w a 1;w b 2;");
            x.place(1);
            Rig.due("action 0", Rig.action(x, 0), "1,0,0,1");
            Rig.due("action 1", Rig.action(x, 1), "1,2,-1,-1");
            Rig.due("action 2", Rig.action(x, 2), "1,0,1,2");
        });
        Rig.test("Promise 14, IllegalArgumentException for gaps that it does not have", () -> {
            for (int gaps = 0; gaps <= 20; gaps++) {
                LitmusRows x = Rig.read("t0:" + Rig.times(gaps + 1, "w a 1;"));
                for (int set : new int[] {1 << gaps, 1 << gaps | 1, 1 << (gaps + 1), 1 << 30, Integer.MIN_VALUE, -1}) {
                    Rig.dueThrow("place(" + set + ") of " + gaps, IllegalArgumentException.class, () -> x.place(set));
                }
                Rig.due("count(2)", x.count(2), gaps + 1);
            }
        });
        Rig.test("Promise 14, the highest gap that it has", () -> {
            for (int gaps = 1; gaps <= 22; gaps++) {
                LitmusRows x = Rig.read("t0:" + Rig.times(gaps + 1, "w a 1;"));
                Rig.due("place of gap " + (gaps - 1), x.place(1 << (gaps - 1)), 1);
                Rig.due("the fence", x.action(gaps, 1), 2);
                Rig.due("before it", x.action(gaps - 1, 1), 0);
                Rig.due("behind it", x.action(gaps + 1, 1), 0);
            }
        });
        Rig.test("Promise 14, a refused set leaves everything as it was", () -> {
            LitmusRows x = Rig.read("t0:w a 1;r b r0;f;w c 2;exists(t0:r0=1)");
            x.fences();
            x.judge(false);
            x.print();
            for (int set : new int[] {2, 3, 4, Integer.MIN_VALUE, Integer.MIN_VALUE + 1, -1, Integer.MAX_VALUE}) {
                Rig.dueRefused("place(" + set + ")", IllegalArgumentException.class, x, () -> x.place(set));
            }
        });
        Rig.test("Promise 14, IllegalArgumentException, when there is no program, whatever the set", () -> {
            LitmusRows x = new LitmusRows();
            LitmusRows y = Rig.read("t0:w a 1;w a 1;");
            Rig.dueThrow("read()", IllegalArgumentException.class, y::read);
            for (int set : new int[] {0, 1, -1, Integer.MIN_VALUE}) {
                Rig.dueRefused("new: place(" + set + ")", IllegalArgumentException.class, x, () -> x.place(set));
                Rig.dueRefused("place(" + set + ")", IllegalArgumentException.class, y, () -> y.place(set));
            }
        });
        Rig.test("Promise 14, the empty set of a program without gaps, and without actions", () -> {
            Rig.due("place(0)", Rig.read("t0:").place(0), 0);
            Rig.due("place(0)", Rig.read("t0:f;w a 1;").place(0), 0);
        });
        Rig.test("Promise 14, the gaps count anew behind it: a placed fence makes no gaps", () -> {
            LitmusRows x = Rig.read("t0:w a 1;w b 2;w c 3;");
            x.place(1);
            Rig.dueThrow("place(2)", IllegalArgumentException.class, () -> x.place(2));
            Rig.due("place(1)", x.place(1), 1);
            Rig.dueThrow("place(1)", IllegalArgumentException.class, () -> x.place(1));
            Rig.due("place(0)", x.place(0), 0);
            Rig.due("program", Rig.printed(x), "t0: w a 1; f; w b 2; f; w c 3;\n");
        });
        Rig.test("Promise 14, more gaps than fences() tries", () -> {
            LitmusRows x = Rig.read("t0:" + Rig.times(12, "w a 1;"));
            Rig.due("all eleven", x.place((1 << 11) - 1), 11);
            Rig.due("count(2)", x.count(2), 23);
            Rig.due("no gap is left", x.fences(), 0);
        });
    }

    private static void fullPrograms() {
        Rig.test("Promise 14, 24 actions are not too many", () -> {
            LitmusRows x = Rig.read("t0:" + Rig.times(23, "w a 1;"));
            Rig.due("one more", x.place(1), 1);
            Rig.due("count(2)", x.count(2), 24);
            LitmusRows y = Rig.read("t0:" + Rig.times(12, "w a 1;") + "t1:f;");
            Rig.due("eleven more", y.place((1 << 11) - 1), 11);
            Rig.due("count(2)", y.count(2), 24);
            Rig.due("the last action", Rig.action(y, 23), "1,2,-1,-1");
        });
        Rig.test("Promise 14, IllegalStateException for 25 actions", () -> {
            LitmusRows x = Rig.read("t0:" + Rig.times(24, "w a 1;"));
            Rig.dueRefused("one more", IllegalStateException.class, x, () -> x.place(1));
            LitmusRows y = Rig.read("t0:" + Rig.times(23, "w a 1;"));
            Rig.dueRefused("two more", IllegalStateException.class, y, () -> y.place(1 << 21 | 1));
            LitmusRows z = Rig.read("t0:" + Rig.times(13, "w a 1;"));
            Rig.dueRefused("twelve more", IllegalStateException.class, z, () -> z.place((1 << 12) - 1));
            Rig.due("eleven more", z.place((1 << 11) - 1), 11);
        });
        Rig.test("Promise 14, the empty set of a full program", () -> {
            LitmusRows x = Rig.read("t0:" + Rig.times(24, "w a 1;"));
            Rig.due("place(0)", x.place(0), 0);
            Rig.due("count(2)", x.count(2), 24);
        });
        Rig.test("Promise 14, IllegalArgumentException is ahead of IllegalStateException", () -> {
            LitmusRows x = Rig.read("t0:" + Rig.times(24, "w a 1;"));
            Rig.dueRefused("gap 23", IllegalArgumentException.class, x, () -> x.place(1 << 23));
            Rig.dueRefused("all bits", IllegalArgumentException.class, x, () -> x.place(-1));
            LitmusRows y = Rig.read("t0:" + Rig.times(24, "f;"));
            Rig.dueRefused("gap 0 of none", IllegalArgumentException.class, y, () -> y.place(1));
            LitmusRows z = Rig.read("t0:" + Rig.times(13, "w a 1;"));
            Rig.dueRefused("thirteen gaps of twelve", IllegalArgumentException.class, z, () -> z.place((1 << 13) - 1));
        });
        Rig.test("Promise 14, a full program of 24 actions refuses each of its gaps", () -> {
            LitmusRows x = Rig.read("t0:" + Rig.times(24, "w a 1;"));
            for (int gap = 0; gap <= 22; gap++) {
                int set = 1 << gap;
                Rig.dueThrow("gap " + gap, IllegalStateException.class, () -> x.place(set));
            }
        });
    }

    private static void trying() {
        Rig.test("Promise 14, trying ends", () -> {
            for (int set = 0; set < 4; set++) {
                LitmusRows x = inTheMidst();
                x.place(set);
                Rig.due("asked()", x.asked(), -1);
                Rig.dueThrow("judge(true)", IllegalStateException.class, () -> x.judge(true));
            }
        });
        Rig.test("Promise 14, the sets that forbid stay known", () -> {
            for (int set = 0; set < 4; set++) {
                LitmusRows x = inTheMidst();
                x.place(set);
                Rig.due("least(0)", x.least(0), 1);
                Rig.dueThrow("least(1)", IndexOutOfBoundsException.class, () -> x.least(1));
            }
        });
        Rig.test("Promise 14, trying goes on, when the set is refused", () -> {
            LitmusRows x = inTheMidst();
            Rig.dueRefused("place(4)", IllegalArgumentException.class, x, () -> x.place(4));
            Rig.due("asked()", x.asked(), 2);
            Rig.due("judge(true)", x.judge(true), 2);
            LitmusRows y = Rig.read("t0:w a 1;w a 1;" + Rig.times(22, "f;"));
            y.fences();
            Rig.dueRefused("place(1)", IllegalStateException.class, y, () -> y.place(1));
            Rig.due("asked()", y.asked(), 0);
        });
        Rig.test("Promise 14, the threads, the condition, the text, the ring and what was printed stay", () -> {
            LitmusRows x = Rig.read("t0:w a 1;r b r0;t1:forall(t0:r0=1&a=2)");
            x.print();
            x.edge(3);
            x.feed(0, 0, 0, 0);
            x.place(1);
            int[] want = {16, 2, 3, 2, 2, 1, 50, 0};
            for (int what = 0; what < want.length; what++) {
                Rig.due("count(" + what + ")", x.count(what), want[what]);
            }
            Rig.due("term 0", Rig.term(x, 0), "0,0,1");
            Rig.due("term 1", Rig.term(x, 1), "-1,0,2");
        });
    }

    /** An object that knows set 1 of two gaps to forbid, and asks for set 2. */
    private static LitmusRows inTheMidst() {
        LitmusRows x = Rig.read("t0:w a 1;w b 1;w c 1;");
        x.fences();
        x.judge(false);
        x.judge(true);
        return x;
    }
}
