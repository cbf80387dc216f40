import java.util.Arrays;

/** Promises 6 and 7 and the rings of 'Terms', the boundary cases: a test for each. */
final class BoundaryRingTest {
    private static final int READ_BY = 0;
    private static final int BEFORE = 1;
    private static final int FOLLOWED = 2;
    private static final int WW = 3;
    private static final int WR = 4;
    private static final int RW = 5;
    private static final int RR = 6;
    private static final int WW_FENCE = 7;
    private static final int WR_FENCE = 8;
    private static final int RW_FENCE = 9;
    private static final int RR_FENCE = 10;
    private static final String FROM = "WRWWWRRWWRR";
    private static final String TO = "RWWWRWRWRWR";

    public static void main(String[] args) {
        edge();
        ringOrNot();
        itsProgram();
        itsCondition();
        make();
        Rig.finish();
    }

    private static void edge() {
        Rig.test("Promise 6, kinds 0 to 10 are edges", () -> {
            for (int kind = 0; kind <= 10; kind++) {
                LitmusRows x = new LitmusRows();
                Rig.due("edge(" + kind + ")", x.edge(kind), 1);
                Rig.due("count(5)", x.count(5), 1);
            }
        });
        Rig.test("Promise 6, IllegalArgumentException for -1, 11 and what is far from them", () -> {
            for (int told = 0; told <= 12; told++) {
                LitmusRows x = new LitmusRows();
                for (int n = 0; n < told; n++) {
                    x.edge(WW);
                }
                for (int kind : new int[] {-1, 11, 12, 255, Integer.MIN_VALUE, Integer.MAX_VALUE}) {
                    Rig.dueRefused("edge(" + kind + ")", IllegalArgumentException.class, x, () -> x.edge(kind));
                }
            }
        });
        Rig.test("Promise 6, twelve edges can be told, of any kind, whether they fit or not", () -> {
            LitmusRows x = new LitmusRows();
            for (int n = 1; n <= 12; n++) {
                Rig.due("edge", x.edge((n * 7) % 11), n);
            }
        });
        Rig.test("Promise 6, UnsupportedOperationException, when there are twelve", () -> {
            LitmusRows x = new LitmusRows();
            for (int n = 0; n < 12; n++) {
                x.edge(FOLLOWED);
            }
            for (int kind = 0; kind <= 10; kind++) {
                int k = kind;
                Rig.dueRefused("edge 13", UnsupportedOperationException.class, x, () -> x.edge(k));
            }
        });
        Rig.test("Promise 6, IllegalArgumentException is ahead of UnsupportedOperationException", () -> {
            LitmusRows x = new LitmusRows();
            for (int n = 0; n < 12; n++) {
                x.edge(FOLLOWED);
            }
            Rig.dueRefused("edge(-1)", IllegalArgumentException.class, x, () -> x.edge(-1));
            Rig.dueRefused("edge(11)", IllegalArgumentException.class, x, () -> x.edge(11));
        });
        Rig.test("Promise 6, a refused edge leaves the ring as it was", () -> {
            LitmusRows x = new LitmusRows();
            for (int kind : new int[] {WR, BEFORE, WR, BEFORE}) {
                x.edge(kind);
                Rig.dueThrow("edge(11)", IllegalArgumentException.class, () -> x.edge(11));
                Rig.dueThrow("edge(-1)", IllegalArgumentException.class, () -> x.edge(-1));
            }
            Rig.due("make()", x.make(), 4);
        });
        Rig.test("Promise 6, an edge touches nothing else", () -> {
            LitmusRows x = Rig.read("t0:w a 1;w b 1;exists(a=1)");
            x.fences();
            x.judge(false);
            x.print();
            String before = Rig.state(x);
            x.edge(WW);
            Rig.due("state", Rig.state(x), before.replace("counts 0 1 2 1 1 0", "counts 0 1 2 1 1 1"));
        });
    }

    private static void ringOrNot() {
        Rig.test("Terms, a ring has 2 to 4 edges of two threads and 2 to 4 of one", () -> {
            for (int two = 0; two <= 12; two++) {
                for (int one = 0; two + one <= 12; one++) {
                    int[] kinds = new int[one + two];
                    Arrays.fill(kinds, 0, one, WW);
                    Arrays.fill(kinds, one, one + two, FOLLOWED);
                    ringOrNot(kinds, two >= 2 && two <= 4 && one >= 2 && one <= 4);
                }
            }
        });
        Rig.test("Terms, no edges and one edge are no ring", () -> {
            ringOrNot(new int[] {}, false);
            for (int kind = 0; kind <= 10; kind++) {
                ringOrNot(new int[] {kind}, false);
            }
        });
        Rig.test("Terms, the last edge of a ring is of two threads", () -> {
            int[] kinds = {WW, FOLLOWED, WW_FENCE, WR, BEFORE, FOLLOWED};
            for (int turn = 0; turn < kinds.length; turn++) {
                int[] turned = new int[kinds.length];
                for (int e = 0; e < kinds.length; e++) {
                    turned[e] = kinds[(e + turn) % kinds.length];
                }
                ringOrNot(turned, turned[kinds.length - 1] <= 2);
            }
        });
        Rig.test("Terms, what an edge leads to is what the next one comes from, the last one the first", () -> {
            for (int n = 0; n < 11 * 11 * 11 * 11; n++) {
                int[] kinds = {n / 1331, n / 121 % 11, n / 11 % 11, n % 11};
                int two = 0;
                boolean fits = true;
                for (int e = 0; e < 4; e++) {
                    two += kinds[e] <= 2 ? 1 : 0;
                    fits = fits && TO.charAt(kinds[e]) == FROM.charAt(kinds[(e + 1) % 4]);
                }
                ringOrNot(kinds, fits && two == 2 && kinds[3] <= 2);
            }
        });
        Rig.test("Terms, a ring that does not fit at its end alone", () -> {
            ringOrNot(new int[] {WW, FOLLOWED, WW, READ_BY}, false);
            ringOrNot(new int[] {RW, FOLLOWED, WW, FOLLOWED}, false);
            ringOrNot(new int[] {RW, FOLLOWED, WW, READ_BY}, true);
        });
    }

    private static void itsProgram() {
        Rig.test("Terms, two threads and two places are the least", () -> ring(
                "t0: w a 1; r b r0;\nt1: w b 1; r a r0;\nexists (t0:r0 = 0 & t1:r0 = 0)\n", WR, BEFORE, WR, BEFORE));
        Rig.test("Terms, four threads and four places are the most; behind the last place comes a again", () -> ring(
                "t0: w a 1; r b r0;\nt1: w b 1; r c r0;\nt2: w c 1; r d r0;\nt3: w d 1; r a r0;\n"
                + "exists (t0:r0 = 0 & t1:r0 = 0 & t2:r0 = 0 & t3:r0 = 0)\n",
                WR, BEFORE, WR, BEFORE, WR, BEFORE, WR, BEFORE));
        Rig.test("Terms, of three places c is the last, a comes again", () -> ring(
                "t0: w a 1; r b r0;\nt1: w b 1; r c r0;\nt2: w c 1; r a r0;\n"
                + "exists (t0:r0 = 0 & t1:r0 = 0 & t2:r0 = 0)\n", WR, BEFORE, WR, BEFORE, WR, BEFORE));
        Rig.test("Terms, all four places in one thread, and a again in it", () -> ring(
                "t0: r a r0; r b r1; r c r2; r d r3; r a r4;\nt1: w a 1;\n"
                + "exists (t0:r0 = 1 & t0:r1 = 0 & t0:r2 = 0 & t0:r3 = 0 & t0:r4 = 0)\n",
                RR, RR, RR, RR, BEFORE, READ_BY));
        Rig.test("Terms, an edge of two threads keeps the place, one of one thread keeps the thread", () -> ring(
                "t0: w a 2;\nt1: w a 3;\nt2: w a 4; w b 1;\nt3: w b 2; w a 1;\nexists (a = 4 & b = 2)\n",
                FOLLOWED, FOLLOWED, WW, FOLLOWED, WW, FOLLOWED));
        Rig.test("Terms, the row of a goes on over the ring's end: one action before it", () -> ring(
                "t0: w a 2; w b 1;\nt1: w b 2; w a 1;\nexists (a = 2 & b = 2)\n", WW, FOLLOWED, WW, FOLLOWED));
        Rig.test("Terms, the row of a goes on over the ring's end: four actions before it", () -> ring(
                "t0: w a 5; w b 1; w a 1;\nt1: w a 2;\nt2: w a 3;\nt3: w a 4;\nexists (a = 5)\n",
                WW, WW, FOLLOWED, FOLLOWED, FOLLOWED, FOLLOWED));
        Rig.test("Terms, the row of a on both sides of the ring's end", () -> ring(
                "t0: w a 3;\nt1: w a 4; w b 1; w a 1;\nt2: w a 2;\nexists (a = 4)\n",
                FOLLOWED, WW, WW, FOLLOWED, FOLLOWED));
        Rig.test("Terms, the row of a with nothing but one write", () -> ring(
                "t0: w a 1;\nt1: r a r0; r b r1;\nt2: w b 1; r a r0;\n"
                + "exists (t1:r0 = 1 & t1:r1 = 0 & t2:r0 = 0)\n", READ_BY, RR, BEFORE, WR, BEFORE));
        Rig.test("Terms, a row in the midst: writes 1, 2, 3, 4", () -> ring(
                "t0: w a 2; w b 1;\nt1: w b 2;\nt2: w b 3;\nt3: w b 4; w a 1;\nexists (a = 2 & b = 4)\n",
                WW, FOLLOWED, FOLLOWED, FOLLOWED, WW, FOLLOWED));
        Rig.test("Terms, a read behind READ BY reads what that write wrote, also the second and the third", () -> {
            ring("t0: r a r0; w b 1;\nt1: w b 2;\nt2: r b r0; w a 1;\nexists (t0:r0 = 1 & t2:r0 = 2 & b = 2)\n",
                    RW, FOLLOWED, READ_BY, RW, READ_BY);
            ring("t0: r a r0; w b 1; w a 1;\nt1: w a 2;\nt2: w a 3;\nexists (t0:r0 = 3 & a = 3)\n",
                    RW, WW, FOLLOWED, FOLLOWED, READ_BY);
        });
        Rig.test("Terms, a read behind READ BY with a write behind it", () -> ring(
                "t0: w a 2; w b 1;\nt1: r b r0;\nt2: w b 2; w a 1;\nexists (t1:r0 = 1 & a = 2 & b = 2)\n",
                WW, READ_BY, BEFORE, WW, FOLLOWED));
        Rig.test("Terms, another read reads what is before the next write: its number less 1", () -> ring(
                "t0: w a 2; r b r0;\nt1: w b 1;\nt2: w b 2; w a 1;\nexists (t0:r0 = 0 & a = 2 & b = 2)\n",
                WR, BEFORE, FOLLOWED, WW, FOLLOWED));
        Rig.test("Terms, another read that nothing follows reads 0", () -> ring(
                "t0: w a 2; r b r0; w c 1;\nt1: w c 2; w a 1;\nexists (t0:r0 = 0 & a = 2 & c = 2)\n",
                WR, RW, FOLLOWED, WW, FOLLOWED));
        Rig.test("Terms, registers count from r0 in each thread", () -> ring(
                "t0: r a r0; r b r1;\nt1: w b 1; r c r0; r d r1;\nt2: w d 1;\nt3: w d 2; w a 1;\n"
                + "exists (t0:r0 = 1 & t0:r1 = 0 & t1:r0 = 0 & t1:r1 = 0 & d = 2)\n",
                RR, BEFORE, WR, RR, BEFORE, FOLLOWED, WW, READ_BY));
        Rig.test("Terms, an edge 7 to 10 makes a fence, 3 to 6 none", () -> {
            ring("t0: w a 2; w b 1;\nt1: w b 2; f; w a 1;\nexists (a = 2 & b = 2)\n", WW, FOLLOWED, WW_FENCE, FOLLOWED);
            ring("t0: w a 1; f; r b r0;\nt1: w b 1; r a r0;\nexists (t0:r0 = 0 & t1:r0 = 0)\n",
                    WR_FENCE, BEFORE, WR, BEFORE);
            ring("t0: r a r0; f; w b 1;\nt1: r b r0; w a 1;\nexists (t0:r0 = 1 & t1:r0 = 1)\n",
                    RW_FENCE, READ_BY, RW, READ_BY);
            ring("t0: w a 1;\nt1: r a r0; f; r b r1;\nt2: w b 1;\nt3: r b r0; r a r1;\n"
                    + "exists (t1:r0 = 1 & t1:r1 = 0 & t3:r0 = 1 & t3:r1 = 0)\n",
                    READ_BY, RR_FENCE, BEFORE, READ_BY, RR, BEFORE);
        });
        Rig.test("Terms, the longest ring: eight edges, four fences, twelve actions", () -> {
            LitmusRows x = Rig.make(WW_FENCE, FOLLOWED, WW_FENCE, FOLLOWED, WW_FENCE, FOLLOWED, WW_FENCE, FOLLOWED);
            Rig.due("actions", x.count(2), 12);
            Rig.due("threads", x.count(1), 4);
            Rig.due("printed", Rig.printed(x), "t0: w a 2; f; w b 1;\nt1: w b 2; f; w c 1;\nt2: w c 2; f; w d 1;\n"
                    + "t3: w d 2; f; w a 1;\nexists (a = 2 & b = 2 & c = 2 & d = 2)\n");
        });
    }

    private static void itsCondition() {
        Rig.test("Terms, a place with one write is no term, one with two is", () -> ring(
                "t0: w a 1; w b 1;\nt1: w b 2; r a r0;\nexists (t1:r0 = 0 & b = 2)\n", WW, FOLLOWED, WR, BEFORE));
        Rig.test("Terms, a place with no write is no term", () -> ring(
                "t0: w a 2; r b r0; w c 1;\nt1: w c 2; w a 1;\nexists (t0:r0 = 0 & a = 2 & c = 2)\n",
                WR, RW, FOLLOWED, WW, FOLLOWED));
        Rig.test("Terms, the reads' terms come first, thread by thread, then the places a to d", () -> {
            LitmusRows x = Rig.make(RW, FOLLOWED, WW, FOLLOWED, WW, FOLLOWED, WW, READ_BY);
            Rig.due("terms", x.count(3), 4);
            String[] want = {"0,0,1", "-1,1,2", "-1,2,2", "-1,3,2"};
            for (int k = 0; k < want.length; k++) {
                Rig.due("term " + k, Rig.term(x, k), want[k]);
            }
        });
        Rig.test("Terms, a ring without reads has terms of places alone", () -> {
            LitmusRows x = Rig.make(WW, FOLLOWED, WW, FOLLOWED);
            Rig.due("terms", x.count(3), 2);
            Rig.due("term 0", Rig.term(x, 0), "-1,0,2");
            Rig.due("term 1", Rig.term(x, 1), "-1,1,2");
        });
        Rig.test("Terms, a ring of one write each has terms of reads alone", () -> {
            LitmusRows x = Rig.make(WR, BEFORE, WR, BEFORE);
            Rig.due("terms", x.count(3), 2);
            Rig.due("term 0", Rig.term(x, 0), "0,0,0");
            Rig.due("term 1", Rig.term(x, 1), "1,0,0");
        });
        Rig.test("Terms, the condition of a ring is exists", () -> {
            LitmusRows x = Rig.read("t0:forall(a=1)");
            Rig.tell(x, WR, BEFORE, WR, BEFORE);
            x.make();
            Rig.due("count(4)", x.count(4), 1);
        });
    }

    private static void make() {
        Rig.test("Promise 7, it answers how many actions, fences too", () -> {
            LitmusRows x = new LitmusRows();
            Rig.tell(x, WR, BEFORE, WR, BEFORE);
            Rig.due("make()", x.make(), 4);
            Rig.tell(x, WR_FENCE, BEFORE, WR, BEFORE);
            Rig.due("make()", x.make(), 5);
            Rig.tell(x, RR_FENCE, RR_FENCE, RR_FENCE, RR_FENCE, BEFORE, READ_BY);
            Rig.due("make()", x.make(), 10);
        });
        Rig.test("Promise 7, no ring is told any more", () -> {
            LitmusRows x = Rig.make(WR, BEFORE, WR, BEFORE);
            Rig.due("count(5)", x.count(5), 0);
            Rig.dueThrow("make() again", IllegalStateException.class, x::make);
            Rig.due("edge", x.edge(WR), 1);
        });
        Rig.test("Promise 7, IllegalStateException, when it is no ring: it is gone, too", () -> {
            LitmusRows x = new LitmusRows();
            for (int n = 0; n <= 12; n++) {
                for (int k = 0; k < n; k++) {
                    x.edge(WW);
                }
                Rig.dueThrow("make() of " + n, IllegalStateException.class, x::make);
                Rig.due("count(5)", x.count(5), 0);
            }
            Rig.due("edge", x.edge(WR), 1);
        });
        Rig.test("Promise 7, nothing of a ring that was none comes into the next one", () -> {
            LitmusRows x = new LitmusRows();
            Rig.tell(x, WR, BEFORE);
            Rig.dueThrow("make()", IllegalStateException.class, x::make);
            Rig.tell(x, WR, BEFORE);
            Rig.dueThrow("make()", IllegalStateException.class, x::make);
            Rig.tell(x, RR, RR, RR, RR, RR, RR);
            Rig.dueThrow("make()", IllegalStateException.class, x::make);
            Rig.tell(x, WR, BEFORE, WR, BEFORE);
            Rig.due("make()", x.make(), 4);
            Rig.due("terms", x.count(3), 2);
            Rig.tell(x, WW, FOLLOWED, WW, FOLLOWED);
            Rig.due("make()", x.make(), 4);
            Rig.due("printed", Rig.printed(x), "t0: w a 2; w b 1;\nt1: w b 2; w a 1;\nexists (a = 2 & b = 2)\n");
        });
        Rig.test("Promise 7, when it is no ring, the program stays, and all that hangs on it", () -> {
            LitmusRows x = Rig.read("t0:w a 1;w b 1;w c 1;exists(a=1)");
            x.fences();
            x.judge(false);
            x.judge(true);
            x.print();
            String before = Rig.state(x);
            Rig.dueThrow("make() of none", IllegalStateException.class, x::make);
            Rig.due("state", Rig.state(x), before);
            Rig.tell(x, WW, WW, WW, WW);
            Rig.dueThrow("make() of four", IllegalStateException.class, x::make);
            Rig.due("state", Rig.state(x), before);
            Rig.due("trying goes on", x.judge(true), 2);
        });
        Rig.test("Promise 7, when it is no ring and there is no program, there is none", () -> {
            LitmusRows x = new LitmusRows();
            Rig.tell(x, WW, WW);
            Rig.dueThrow("make()", IllegalStateException.class, x::make);
            Rig.dueThrow("print()", IllegalStateException.class, x::print);
        });
        Rig.test("Promise 7, the ring's program is the program: the one before is gone", () -> {
            LitmusRows x = Rig.read("t0:" + Rig.times(20, "f;") + "t1:t2:t3:forall(" + Rig.times(15, "a=1&") + "b=1)");
            Rig.tell(x, WR, BEFORE, WR, BEFORE);
            Rig.due("make()", x.make(), 4);
            Rig.due("state", Rig.state(x), "counts 0 2 4 2 1 0 0 0, fault 0 at 0, asked -1, known"
                    + " | 0,0,0,1 | 0,1,1,0 | 1,0,1,1 | 1,1,0,0 & 0,0,0 & 1,0,0, printed ");
        });
        Rig.test("Promise 7, a ring of two places has nothing of one of four before it", () -> {
            LitmusRows x = Rig.make(WW, FOLLOWED, WW, FOLLOWED, WW, FOLLOWED, WW, FOLLOWED);
            Rig.due("terms of four places", x.count(3), 4);
            Rig.tell(x, WR, BEFORE, WR, BEFORE);
            x.make();
            Rig.due("terms of two reads", x.count(3), 2);
            Rig.tell(x, WW, FOLLOWED, WW, FOLLOWED);
            x.make();
            Rig.due("terms of two places", x.count(3), 2);
        });
        Rig.test("Promise 7, make touches neither the text nor what was printed", () -> {
            LitmusRows x = Rig.read("t0:");
            x.print();
            Rig.feed(x, "t0:f;f;");
            Rig.tell(x, WR, BEFORE, WR, BEFORE);
            x.make();
            Rig.due("count(0)", x.count(0), 7);
            Rig.due("count(6)", x.count(6), 4);
            Rig.due("read()", x.read(), 2);
        });
    }

    private static void ring(String want, int... kinds) {
        Rig.due("ring " + Arrays.toString(kinds), Rig.printed(Rig.make(kinds)), want);
    }

    private static void ringOrNot(int[] kinds, boolean isRing) {
        LitmusRows x = new LitmusRows();
        Rig.tell(x, kinds);
        if (isRing) {
            long fences = Arrays.stream(kinds).filter(kind -> kind >= 7).count();
            Rig.due("make() of " + Arrays.toString(kinds), x.make(), kinds.length + fences);
        } else {
            Rig.dueThrow("make() of " + Arrays.toString(kinds), IllegalStateException.class, x::make);
        }
        Rig.due("no ring is told any more", x.count(5), 0);
    }
}
