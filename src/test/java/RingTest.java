import java.util.ArrayList;
import java.util.List;

/** Promises 6 and 7: edges, and the programs of all rings against the document's words. */
final class RingTest {
    private static final String FROM = "WRWWWRRWWRR";
    private static final String TO = "RWWWRWRWRWR";

    public static void main(String[] args) {
        edges();
        knownRings();
        noRings();
        stateBehindMake();
        walk(new ArrayList<>(), 6);
        longOnes();
        Rig.finish();
    }

    private static void edges() {
        LitmusRows x = new LitmusRows();
        for (int n = 1; n <= 12; n++) {
            Rig.dueThrow("edge(-1)", IllegalArgumentException.class, () -> x.edge(-1));
            Rig.dueThrow("edge(11)", IllegalArgumentException.class, () -> x.edge(11));
            Rig.due("edge", x.edge(n % 11), n);
            Rig.due("count(5)", x.count(5), n);
        }
        Rig.dueThrow("edge 13", UnsupportedOperationException.class, () -> x.edge(0));
        Rig.dueThrow("edge(11) comes first", IllegalArgumentException.class, () -> x.edge(11));
        Rig.dueThrow("edge(-1) comes first", IllegalArgumentException.class, () -> x.edge(Integer.MIN_VALUE));
        Rig.due("count(5)", x.count(5), 12);
        Rig.dueThrow("make() of twelve", IllegalStateException.class, x::make);
        Rig.due("count(5)", x.count(5), 0);
        Rig.due("edge behind it", x.edge(10), 1);
    }

    private static void knownRings() {
        ring("t0: w a 1; r b r0;\nt1: w b 1; r a r0;\nexists (t0:r0 = 0 & t1:r0 = 0)\n", 4, 1, 4, 1);
        ring("t0: w a 1; w b 1;\nt1: r b r0; r a r1;\nexists (t1:r0 = 1 & t1:r1 = 0)\n", 3, 0, 6, 1);
        ring("t0: w a 1; f; w b 1;\nt1: w b 2; f; r a r0;\nexists (t1:r0 = 0 & b = 2)\n", 7, 2, 8, 1);
        ring("t0: r a r0; w b 1;\nt1: r b r0; w a 1;\nexists (t0:r0 = 1 & t1:r0 = 1)\n", 5, 0, 5, 0);
        ring("t0: w a 2; w b 1;\nt1: w b 2; w a 1;\nexists (a = 2 & b = 2)\n", 3, 2, 3, 2);
        ring("t0: w a 3; w b 1;\nt1: w b 2; f; w a 1;\nt2: w a 2;\nexists (a = 3 & b = 2)\n", 3, 2, 7, 2, 2);
        ring("t0: w a 1;\nt1: r a r0; r b r1;\nt2: w b 1;\nt3: r b r0; r a r1;\n"
                + "exists (t1:r0 = 1 & t1:r1 = 0 & t3:r0 = 1 & t3:r1 = 0)\n", 0, 6, 1, 0, 6, 1);
        ring("t0: w a 2; f; r b r0; f; r c r1; f; r d r2; f; w a 1;\nt1: r a r0;\n"
                + "exists (t0:r0 = 0 & t0:r1 = 0 & t0:r2 = 0 & t1:r0 = 1 & a = 2)\n", 8, 10, 10, 9, 0, 1);
    }

    private static void ring(String printed, int... kinds) {
        Rig.due("ring", Rig.printed(Rig.make(kinds)), printed);
    }

    private static void noRings() {
        int[][] none = {
            {}, {0}, {3}, {1, 4}, {4, 1}, {2, 2}, {3, 3}, {2, 2, 2, 2},
            {4, 1, 4, 2}, {4, 0, 4, 1}, {4, 1, 3, 1}, {1, 4, 1, 4}, {2, 3, 2, 3},
            {3, 2, 2}, {3, 3, 2}, {3, 3, 3, 3, 3, 2, 2}, {3, 3, 2, 2, 2, 2, 2},
            {3, 3, 3, 3, 3, 2, 2, 2, 2}, {3, 2, 3, 2, 3, 2, 3, 2, 3, 2}, {5, 1, 5, 1},
            {3, 2, 2, 2, 2}, {3, 3, 3, 3, 2}, {3, 3, 2, 2, 3}, {10, 10, 10, 9, 0},
        };
        for (int[] kinds : none) {
            LitmusRows x = Rig.read("t0: w a 1; r a r3; exists (a = 1)");
            x.fences();
            x.judge(false);
            x.judge(true);
            for (int kind : kinds) {
                x.edge(kind);
            }
            Rig.dueThrow("make()", IllegalStateException.class, x::make);
            Rig.due("no edges any more", x.count(5), 0);
            Rig.due("the program stays", x.count(2), 2);
            Rig.due("the set stays", x.least(0), 1);
            Rig.due("judged stays", x.count(7), 2);
        }
    }

    private static void stateBehindMake() {
        LitmusRows x = Rig.read("t0: w a 1; r a r3; forall (a = 1)");
        Rig.feed(x, "t0:");
        x.fences();
        x.judge(true);
        x.fences();
        x.judge(false);
        int[] kinds = {8, 2, 3, 2, 10, 1};
        for (int kind : new int[] {8, 1, 3, 2}) {
            x.edge(kind);
        }
        Rig.due("make()", x.make(), 5);
        int[] counts = {3, 2, 5, 2, 1, 0, 0, 0};
        for (int what = 0; what < counts.length; what++) {
            Rig.due("count(" + what + ")", x.count(what), counts[what]);
        }
        Rig.due("asked()", x.asked(), -1);
        Rig.dueThrow("least(0)", IndexOutOfBoundsException.class, () -> x.least(0));
        for (int kind : kinds) {
            x.edge(kind);
        }
        Rig.dueThrow("no ring", IllegalStateException.class, x::make);
        Rig.due("program stays", x.count(2), 5);
        Rig.due("asked while trying: fences()", x.fences(), 1);
        Rig.dueThrow("no ring", IllegalStateException.class, x::make);
        Rig.due("trying goes on behind no ring", x.asked(), 0);

        LitmusRows y = Rig.make(3, 2, 3, 2, 3, 2, 3, 2);
        Rig.due("four places", y.count(3), 4);
        for (int kind : new int[] {4, 1, 4, 1}) {
            y.edge(kind);
        }
        y.make();
        Rig.due("nothing is left of them", Rig.printed(y),
                "t0: w a 1; r b r0;\nt1: w b 1; r a r0;\nexists (t0:r0 = 0 & t1:r0 = 0)\n");
    }

    /** Every chain of edges that fits, up to this many. */
    private static void walk(List<Integer> kinds, int most) {
        if (kinds.size() >= 3) {
            compare(kinds);
        }
        if (kinds.size() == most) {
            return;
        }
        for (int kind = 0; kind <= 10; kind++) {
            if (kinds.isEmpty() || TO.charAt(kinds.get(kinds.size() - 1)) == FROM.charAt(kind)) {
                kinds.add(kind);
                walk(kinds, most);
                kinds.remove(kinds.size() - 1);
            }
        }
    }

    private static void longOnes() {
        long seed = 12345;
        for (int n = 0; n < 60000; n++) {
            List<Integer> kinds = new ArrayList<>();
            seed = seed * 6364136223846793005L + 1442695040888963407L;
            int size = 6 + (int) ((seed >>> 33) % 4);
            while (kinds.size() < size) {
                seed = seed * 6364136223846793005L + 1442695040888963407L;
                int kind = (int) ((seed >>> 33) % 22);
                kind = kind > 10 ? kind % 3 : kind;
                if (kinds.isEmpty() || TO.charAt(kinds.get(kinds.size() - 1)) == FROM.charAt(kind)) {
                    kinds.add(kind);
                }
            }
            compare(kinds);
        }
    }

    private static void compare(List<Integer> kinds) {
        LitmusRows x = new LitmusRows();
        for (int kind : kinds) {
            x.edge(kind);
        }
        String want = model(kinds);
        if (want == null) {
            Rig.dueThrow("make of " + kinds, IllegalStateException.class, x::make);
        } else {
            x.make();
            Rig.due("ring " + kinds, Rig.printed(x), want);
        }
    }

    /** What is printed of a ring's program, as the document's words have it; null for no ring. */
    static String model(List<Integer> kinds) {
        int n = kinds.size();
        int two = (int) kinds.stream().filter(k -> k <= 2).count();
        int one = n - two;
        if (two < 2 || two > 4 || one < 2 || one > 4 || kinds.get(n - 1) > 2) {
            return null;
        }
        for (int e = 0; e < n; e++) {
            if (TO.charAt(kinds.get(e)) != FROM.charAt(kinds.get((e + 1) % n))) {
                return null;
            }
        }
        int[] thread = new int[n];
        int[] place = new int[n];
        for (int i = 1; i < n; i++) {
            boolean across = kinds.get(i - 1) <= 2;
            thread[i] = thread[i - 1] + (across ? 1 : 0);
            place[i] = (place[i - 1] + (across ? 0 : 1)) % one;
        }
        int[] number = new int[n];
        int[] writes = new int[one];
        for (int p = 0; p < one; p++) {
            List<Integer> row = row(kinds, place, p);
            for (int i : row) {
                if (FROM.charAt(kinds.get(i)) == 'W') {
                    number[i] = ++writes[p];
                }
            }
            for (int at = 0; at < row.size(); at++) {
                int i = row.get(at);
                if (FROM.charAt(kinds.get(i)) == 'R') {
                    boolean readBy = kinds.get((i + n - 1) % n) == 0;
                    number[i] = readBy ? number[row.get(at - 1)]
                            : at + 1 < row.size() ? number[row.get(at + 1)] - 1 : 0;
                }
            }
        }
        return print(kinds, thread, place, number, writes);
    }

    /** The actions of a place in the row's order; that of a begins behind the ring's last place. */
    private static List<Integer> row(List<Integer> kinds, int[] place, int p) {
        int n = kinds.size();
        int first = 0;
        for (int i = 0; i < n; i++) {
            if (place[i] == p && kinds.get((i + n - 1) % n) > 2) {
                first = i;
            }
        }
        List<Integer> row = new ArrayList<>();
        row.add(first);
        for (int i = first; kinds.get(i) <= 2; i = (i + 1) % n) {
            row.add((i + 1) % n);
        }
        return row;
    }

    private static String print(List<Integer> kinds, int[] thread, int[] place, int[] number, int[] writes) {
        StringBuilder lines = new StringBuilder();
        List<String> terms = new ArrayList<>();
        int register = 0;
        for (int i = 0; i < kinds.size(); i++) {
            if (i == 0 || thread[i] != thread[i - 1]) {
                lines.append(i == 0 ? "" : "\n").append("t").append(thread[i]).append(":");
                register = 0;
            } else if (kinds.get(i - 1) >= 7) {
                lines.append(" f;");
            }
            char name = (char) ('a' + place[i]);
            if (FROM.charAt(kinds.get(i)) == 'W') {
                lines.append(" w " + name + " " + number[i] + ";");
            } else {
                lines.append(" r " + name + " r" + register + ";");
                terms.add("t" + thread[i] + ":r" + register + " = " + number[i]);
                register++;
            }
        }
        for (int p = 0; p < writes.length; p++) {
            if (writes[p] >= 2) {
                terms.add((char) ('a' + p) + " = " + writes[p]);
            }
        }
        lines.append("\n");
        return terms.isEmpty() ? lines.toString() : lines + "exists (" + String.join(" & ", terms) + ")\n";
    }
}
