import java.util.ArrayList;
import java.util.List;

/** Promises 10 to 13 and the gaps of 'Terms', the boundary cases: a test for each. */
final class BoundaryTrialTest {
    public static void main(String[] args) {
        gaps();
        sets();
        fences();
        asked();
        judge();
        least();
        Rig.finish();
    }

    private static void gaps() {
        Rig.test("Terms, no gap: none or one action in a thread", () -> {
            gaps("t0:", 0);
            gaps("t0:w a 1;", 0);
            gaps("t0:f;", 0);
            gaps("t0:t1:t2:t3:", 0);
        });
        Rig.test("Terms, a gap is between two actions of one thread, not of two", () -> {
            gaps("t0:w a 1;w b 1;", 1);
            gaps("t0:w a 1;t1:w b 1;", 0);
            gaps("t0:w a 1;t1:w a 1;w a 1;t2:w b 1;", 1);
            gaps("t0:w a 1;w a 1;t1:t2:w b 1;r b r0;", 2);
        });
        Rig.test("Terms, all four pairs of a write and a read are gaps", () ->
                gaps("t0:w a 1;w a 1;r a r0;r a r0;w a 1;", 4));
        Rig.test("Terms, neither action is a fence", () -> {
            gaps("t0:f;w a 1;", 0);
            gaps("t0:w a 1;f;", 0);
            gaps("t0:f;f;", 0);
            gaps("t0:w a 1;f;w a 1;", 0);
            gaps("t0:r a r0;f;f;r a r0;", 0);
            gaps("t0:f;w a 1;w a 1;f;", 1);
        });
        Rig.test("Terms, gaps are numbered from 0, thread by thread", () -> {
            String text = "t0:w a 0;f;w a 1;w a 2;t1:w a 3;t2:w a 4;w a 5;w a 6;";
            String[] want = {"t0: w a 0; f; w a 1; f; w a 2;\nt1: w a 3;\nt2: w a 4; w a 5; w a 6;\n",
                "t0: w a 0; f; w a 1; w a 2;\nt1: w a 3;\nt2: w a 4; f; w a 5; w a 6;\n",
                "t0: w a 0; f; w a 1; w a 2;\nt1: w a 3;\nt2: w a 4; w a 5; f; w a 6;\n"};
            for (int gap = 0; gap < 3; gap++) {
                LitmusRows x = Rig.read(text);
                x.place(1 << gap);
                Rig.due("fence in gap " + gap, Rig.printed(x), want[gap]);
            }
        });
    }

    private static void gaps(String text, int want) {
        Rig.due("fences() of " + text, Rig.read(text).fences(), want);
    }

    private static void sets() {
        Rig.test("Terms, of no gaps there is one set, the empty one", () -> asksAll("t0:", 0));
        Rig.test("Terms, of one gap there are two sets", () -> asksAll("t0:w a 1;w a 1;", 0, 1));
        Rig.test("Terms, of two gaps there are four sets", () -> asksAll("t0:w a 1;w a 1;w a 1;", 0, 1, 2, 3));
        Rig.test("Terms, sets of no gaps first, then of one, two, ..; of one size like words", () ->
                asksAll("t0:" + Rig.times(5, "w a 1;"), 0, 1, 2, 4, 8, 3, 5, 9, 6, 10, 12, 7, 11, 13, 14, 15));
        Rig.test("Terms, the lower gaps first: 0 and 3 are asked before 1 and 2", () -> {
            LitmusRows x = trying(4);
            for (int n = 0; n < 7; n++) {
                x.judge(false);
            }
            Rig.due("gaps 0 and 3", x.asked(), 9);
            x.judge(false);
            Rig.due("gaps 1 and 2", x.asked(), 6);
        });
        Rig.test("Terms, a set that has all gaps of one that forbids is not asked", () -> {
            LitmusRows x = trying(3);
            judge(x, false, true);
            asks(x, 2, 4, 6);
        });
        Rig.test("Terms, a set that has all gaps but one of one that forbids is asked", () -> {
            LitmusRows x = trying(4);
            judge(x, false, false, false, false, false, false, true);
            Rig.due("the one that forbids", x.least(0), 5);
            asks(x, 9, 6, 10, 12, 11, 14);
        });
        Rig.test("Terms, a set that does not forbid keeps no other from being asked", () -> asksAll(
                "t0:w a 1;w a 1;w a 1;w a 1;", 0, 1, 2, 4, 3, 5, 6, 7));
        Rig.test("Terms, the empty set is in every set: when it forbids, no other is asked", () -> {
            for (int gaps = 0; gaps <= 10; gaps++) {
                LitmusRows x = trying(gaps);
                Rig.due("judge(true)", x.judge(true), 1);
                Rig.due("asked()", x.asked(), -1);
            }
        });
        Rig.test("Terms, when every single gap forbids, no set of two is asked", () -> {
            LitmusRows x = trying(10);
            x.judge(false);
            for (int gap = 0; gap < 10; gap++) {
                Rig.due("asked()", x.asked(), 1 << gap);
                Rig.due("judge(true)", x.judge(true), gap + 1);
            }
            Rig.due("asked()", x.asked(), -1);
        });
        Rig.test("Terms, the set of all gaps is the last one, and may be the only one that forbids", () -> {
            LitmusRows x = trying(3);
            judge(x, false, false, false, false, false, false, false);
            Rig.due("asked()", x.asked(), 7);
            Rig.due("judge(true)", x.judge(true), 1);
            Rig.due("asked()", x.asked(), -1);
            Rig.due("least(0)", x.least(0), 7);
        });
        Rig.test("Terms, the full search of ten gaps in order, as far as 512 calls go", () -> {
            LitmusRows x = trying(10);
            int judged = 0;
            for (int set : byWords(10)) {
                if (judged < 250) {
                    Rig.due("set " + judged, x.asked(), set);
                    Rig.due("judge(false)", x.judge(false), 0);
                    judged++;
                }
            }
        });
        Rig.test("Terms, the full search of ten gaps to its end, without asking what is asked", () -> {
            LitmusRows x = trying(10);
            // Sets of three gaps forbid: 1 + 10 + 45 are judged before them, 120 with them.
            for (int n = 0; n < 176; n++) {
                Rig.due("known", x.judge(n >= 56), Math.max(0, n - 55));
            }
            Rig.due("asked()", x.asked(), -1);
            Rig.due("the last one", x.least(119), 7 << 7);
        });
    }

    /** Sets of gaps sorted by size, those of one size by their gaps as letters. */
    private static List<Integer> byWords(int gaps) {
        List<List<Integer>> words = new ArrayList<>();
        words.add(List.of());
        List<Integer> sets = new ArrayList<>();
        for (int at = 0; at < words.size(); at++) {
            List<Integer> word = words.get(at);
            int set = 0;
            for (int gap : word) {
                set |= 1 << gap;
            }
            sets.add(set);
            for (int gap = word.isEmpty() ? 0 : word.get(word.size() - 1) + 1; gap < gaps; gap++) {
                List<Integer> longer = new ArrayList<>(word);
                longer.add(gap);
                words.add(longer);
            }
        }
        return sets;
    }

    private static void fences() {
        Rig.test("Promise 10, it answers the gaps, from 0 to ten", () -> {
            for (int gaps = 0; gaps <= 10; gaps++) {
                Rig.due("fences()", Rig.read("t0:" + Rig.times(gaps + 1, "w a 1;")).fences(), gaps);
            }
        });
        Rig.test("Promise 10, IllegalStateException for eleven gaps and more", () -> {
            for (int gaps = 11; gaps <= 23; gaps++) {
                LitmusRows x = Rig.read("t0:" + Rig.times(gaps + 1, "w a 1;"));
                Rig.dueRefused("fences()", IllegalStateException.class, x, x::fences);
            }
        });
        Rig.test("Promise 10, ten and eleven gaps in several threads", () -> {
            String some = "t0:" + Rig.times(4, "w a 1;") + "t1:" + Rig.times(4, "w a 1;") + "t2:" + Rig.times(4, "w a 1;");
            Rig.due("fences()", Rig.read(some + "t3:w a 1;w a 1;").fences(), 10);
            LitmusRows x = Rig.read(some + "t3:w a 1;w a 1;w a 1;");
            Rig.dueRefused("fences()", IllegalStateException.class, x, x::fences);
        });
        Rig.test("Promise 10, many actions with fences between have few gaps", () ->
                Rig.due("fences()", Rig.read("t0:" + Rig.times(12, "w a 1;f;")).fences(), 0));
        Rig.test("Promise 10, IllegalStateException, when there is no program", () -> {
            LitmusRows x = new LitmusRows();
            Rig.dueRefused("fences()", IllegalStateException.class, x, x::fences);
            LitmusRows y = Rig.read("t0:f;");
            Rig.dueThrow("read()", IllegalArgumentException.class, y::read);
            Rig.dueRefused("fences()", IllegalStateException.class, y, y::fences);
        });
        Rig.test("Promise 10, a program without actions is a program", () -> {
            LitmusRows x = Rig.read("t0:");
            Rig.due("fences()", x.fences(), 0);
            Rig.due("asked()", x.asked(), 0);
        });
        Rig.test("Promise 10, it begins again, in the midst and in the end", () -> {
            LitmusRows x = trying(2);
            judge(x, false, true);
            Rig.due("fences() in the midst", x.fences(), 2);
            Rig.due("asked()", x.asked(), 0);
            Rig.due("count(7)", x.count(7), 0);
            judge(x, true);
            Rig.due("fences() in the end", x.fences(), 2);
            Rig.due("asked()", x.asked(), 0);
            Rig.due("count(7)", x.count(7), 0);
            asks(x, 0, 1, 2, 3);
        });
        Rig.test("Promise 10, it counts the gaps anew behind place()", () -> {
            LitmusRows x = Rig.read("t0:" + Rig.times(12, "w a 1;"));
            Rig.dueThrow("eleven", IllegalStateException.class, x::fences);
            x.place(1);
            Rig.due("ten", x.fences(), 10);
            x.place(3);
            Rig.due("eight", x.fences(), 8);
        });
    }

    private static void asked() {
        Rig.test("Promise 11, NONE, when fences() was not called since the program came", () -> {
            LitmusRows x = new LitmusRows();
            Rig.due("without a program", x.asked(), -1);
            Rig.feed(x, "t0:w a 1;w a 1;");
            x.read();
            Rig.due("behind read()", x.asked(), -1);
            x.fences();
            Rig.feed(x, "t0:w a 1;w a 1;");
            Rig.due("before read()", x.asked(), 0);
            x.read();
            Rig.due("behind read()", x.asked(), -1);
            x.fences();
            Rig.tell(x, 4, 1, 4, 1);
            Rig.due("before make()", x.asked(), 0);
            x.make();
            Rig.due("behind make()", x.asked(), -1);
            x.fences();
            Rig.dueThrow("read() with a fault", IllegalArgumentException.class, x::read);
            Rig.due("behind a fault", x.asked(), -1);
        });
        Rig.test("Promise 11, NONE, when all are known", () -> {
            LitmusRows x = trying(1);
            Rig.due("the first", x.asked(), 0);
            x.judge(false);
            Rig.due("the last", x.asked(), 1);
            x.judge(false);
            Rig.due("none", x.asked(), -1);
        });
        Rig.test("Promise 11, NONE behind a fences() that was refused", () -> {
            LitmusRows x = Rig.read("t0:" + Rig.times(12, "w a 1;"));
            Rig.dueThrow("fences()", IllegalStateException.class, x::fences);
            Rig.due("asked()", x.asked(), -1);
        });
        Rig.test("Promise 11, the highest gap of ten is bit 9", () -> {
            LitmusRows x = trying(10);
            for (int n = 0; n < 10; n++) {
                x.judge(false);
            }
            Rig.due("asked()", x.asked(), 512);
        });
        Rig.test("Promise 11, asking changes nothing", () -> {
            LitmusRows x = trying(2);
            x.judge(false);
            Rig.due("once", x.asked(), 1);
            Rig.due("twice", x.asked(), 1);
            Rig.due("count(7)", x.count(7), 1);
        });
        Rig.test("Promise 11, the set stays asked by calls that do not touch the program", () -> {
            LitmusRows x = trying(2);
            x.judge(false);
            x.print();
            x.again();
            x.edge(3);
            x.feed(0, 0, 0, 0);
            Rig.dueThrow("make()", IllegalStateException.class, x::make);
            Rig.dueThrow("place(4)", IllegalArgumentException.class, () -> x.place(4));
            Rig.due("asked()", x.asked(), 1);
        });
    }

    private static void judge() {
        Rig.test("Promise 12, IllegalStateException, when none is asked", () -> {
            for (boolean forbids : new boolean[] {false, true}) {
                LitmusRows x = new LitmusRows();
                Rig.dueRefused("without a program", IllegalStateException.class, x, () -> x.judge(forbids));
                Rig.feed(x, "t0:w a 1;w a 1;");
                x.read();
                Rig.dueRefused("without fences()", IllegalStateException.class, x, () -> x.judge(forbids));
                x.fences();
                x.judge(false);
                x.judge(true);
                Rig.dueRefused("when all are known", IllegalStateException.class, x, () -> x.judge(forbids));
                x.fences();
                x.judge(true);
                Rig.dueRefused("when the empty set forbids", IllegalStateException.class, x, () -> x.judge(forbids));
                x.fences();
                x.place(0);
                Rig.dueRefused("behind place()", IllegalStateException.class, x, () -> x.judge(forbids));
            }
        });
        Rig.test("Promise 12, it answers how many sets that forbid are known", () -> {
            LitmusRows x = trying(3);
            boolean[] answers = {false, true, false, true, false};
            int[] known = {0, 1, 1, 2, 2};
            int[] asked = {0, 1, 2, 4, -1};
            for (int k = 0; k < 4; k++) {
                Rig.due("asked()", x.asked(), asked[k]);
                Rig.due("judge", x.judge(answers[k]), known[k]);
                Rig.due("count(7)", x.count(7), k + 1);
            }
            Rig.due("asked()", x.asked(), -1);
        });
        Rig.test("Promise 12, none that forbids is known, when all were judged so", () -> {
            LitmusRows x = trying(3);
            for (int k = 0; k < 8; k++) {
                Rig.due("judge(false)", x.judge(false), 0);
            }
            Rig.due("asked()", x.asked(), -1);
            Rig.dueThrow("least(0)", IndexOutOfBoundsException.class, () -> x.least(0));
        });
        Rig.test("Promise 12, the most sets that can be known: all of four gaps of ten", () -> {
            // 1 + 10 + 45 + 120 sets are smaller; the 210 of four gaps are side by side.
            LitmusRows x = trying(10);
            for (int n = 0; n < 386; n++) {
                Rig.due("known", x.judge(n >= 176), Math.max(0, n - 175));
            }
            Rig.due("asked()", x.asked(), -1);
            Rig.due("least(0)", x.least(0), 15);
            Rig.due("least(209)", x.least(209), 15 << 6);
            Rig.dueThrow("least(210)", IndexOutOfBoundsException.class, () -> x.least(210));
        });
    }

    private static void least() {
        Rig.test("Promise 13, from 0 to the last one, in the order in which they came", () -> {
            LitmusRows x = trying(4);
            judge(x, false, false, false, true, false, true);
            int[] want = {4, 3};
            for (int k = 0; k < want.length; k++) {
                Rig.due("least(" + k + ")", x.least(k), want[k]);
            }
        });
        Rig.test("Promise 13, IndexOutOfBoundsException, when there is none", () -> {
            LitmusRows x = trying(4);
            judge(x, false, false, false, true, false, true);
            int[] none = {-1, 2, 252, Integer.MIN_VALUE, Integer.MAX_VALUE};
            for (int k : none) {
                Rig.dueRefused("least(" + k + ")", IndexOutOfBoundsException.class, x, () -> x.least(k));
            }
        });
        Rig.test("Promise 13, IndexOutOfBoundsException, when none forbids, or nothing was tried", () -> {
            LitmusRows x = new LitmusRows();
            Rig.dueThrow("new: least(0)", IndexOutOfBoundsException.class, () -> x.least(0));
            LitmusRows y = trying(0);
            Rig.dueThrow("before a judge: least(0)", IndexOutOfBoundsException.class, () -> y.least(0));
            y.judge(false);
            Rig.dueThrow("least(0)", IndexOutOfBoundsException.class, () -> y.least(0));
            Rig.dueThrow("least(-1)", IndexOutOfBoundsException.class, () -> y.least(-1));
        });
        Rig.test("Promise 13, they are known at once, not in the end alone", () -> {
            LitmusRows x = trying(3);
            judge(x, false, true);
            Rig.due("asked()", x.asked(), 2);
            Rig.due("least(0)", x.least(0), 1);
        });
        Rig.test("Promise 13, they are gone with fences()", () -> {
            LitmusRows x = known();
            x.fences();
            Rig.dueThrow("least(0)", IndexOutOfBoundsException.class, () -> x.least(0));
        });
        Rig.test("Promise 13, they are gone with read()", () -> {
            LitmusRows x = known();
            Rig.feed(x, "t0:w a 1;w a 1;");
            Rig.due("before it", x.least(0), 1);
            x.read();
            Rig.dueThrow("least(0)", IndexOutOfBoundsException.class, () -> x.least(0));
        });
        Rig.test("Promise 13, they are gone with a read() that has a fault", () -> {
            LitmusRows x = known();
            Rig.dueThrow("read()", IllegalArgumentException.class, x::read);
            Rig.dueThrow("least(0)", IndexOutOfBoundsException.class, () -> x.least(0));
        });
        Rig.test("Promise 13, they are gone with a make() that makes one", () -> {
            LitmusRows x = known();
            Rig.tell(x, 4, 1, 4, 1);
            Rig.due("before it", x.least(0), 1);
            x.make();
            Rig.dueThrow("least(0)", IndexOutOfBoundsException.class, () -> x.least(0));
        });
        Rig.test("Promise 13, they stay with a make() that makes none", () -> {
            LitmusRows x = known();
            Rig.tell(x, 4, 1, 4);
            Rig.dueThrow("make()", IllegalStateException.class, x::make);
            Rig.due("least(0)", x.least(0), 1);
        });
        Rig.test("Promise 13, they stay with place(), print() and again()", () -> {
            LitmusRows x = known();
            x.place(1);
            Rig.due("behind place()", x.least(0), 1);
            x.print();
            x.again();
            Rig.due("behind print() and again()", x.least(0), 1);
        });
    }

    /** An object that begins to try the sets of so many gaps. */
    private static LitmusRows trying(int gaps) {
        LitmusRows x = Rig.read("t0:" + Rig.times(gaps + 1, "w a 1;"));
        x.fences();
        return x;
    }

    /** An object that knows that set 1 of two gaps forbids. */
    private static LitmusRows known() {
        LitmusRows x = trying(2);
        judge(x, false, true);
        return x;
    }

    private static void judge(LitmusRows x, boolean... answers) {
        for (boolean answer : answers) {
            x.judge(answer);
        }
    }

    /** That these sets and no other are asked from here, when none of them forbids. */
    private static void asks(LitmusRows x, int... sets) {
        for (int set : sets) {
            Rig.due("asked()", x.asked(), set);
            x.judge(false);
        }
        Rig.due("asked() in the end", x.asked(), -1);
    }

    private static void asksAll(String text, int... sets) {
        LitmusRows x = Rig.read(text);
        x.fences();
        asks(x, sets);
    }
}
