import java.util.ArrayList;
import java.util.List;
import java.util.function.IntPredicate;

/** Promises 10 to 14 and 18: gaps, the sets that are asked, and fences that are placed. */
final class FenceTest {
    // An object answers 512 calls: two for each set, and some more.
    private static final int MOST_JUDGED = 220;

    public static void main(String[] args) {
        gaps();
        order();
        judges();
        startAgain();
        placeThem();
        placeLimits();
        placeAndTrying();
        placeAgainstModel();
        Rig.finish();
    }

    private static void gaps() {
        gaps("t0:", 0);
        gaps("t0: f;", 0);
        gaps("t0: w a 1;", 0);
        gaps("t0: w a 1; t1: w a 1;", 0);
        gaps("t0: w a 1; f; w a 1;", 0);
        gaps("t0: w a 1; f; f; w a 1; w a 2;", 1);
        gaps("t0: w a 1; r a r0; t1: t2: r a r0; r a r0; r a r0;", 3);
        gaps("t0: f; w a 1; w a 1; f;", 1);
        gaps("t0: " + Rig.times(11, "w a 1;"), 10);
        gaps("t0: " + Rig.times(6, "w a 1;") + "t1:" + Rig.times(6, "r b r1;"), 10);
        for (String many : new String[] {"t0: " + Rig.times(12, "w a 1;"), "t0: " + Rig.times(24, "w a 1;"),
            "t0: " + Rig.times(6, "w a 1;") + "t1:" + Rig.times(7, "r b r1;")}) {
            LitmusRows x = Rig.read(many);
            Rig.dueThrow("fences() of more than ten", IllegalStateException.class, x::fences);
            Rig.due("asked()", x.asked(), -1);
            Rig.dueThrow("judge", IllegalStateException.class, () -> x.judge(true));
            Rig.due("actions stay", x.count(2), many.contains("t1") ? 13 : many.length() / 6);
        }
    }

    private static void gaps(String text, int want) {
        LitmusRows x = Rig.read(text);
        Rig.due("asked() before fences()", x.asked(), -1);
        Rig.dueThrow("judge before fences()", IllegalStateException.class, () -> x.judge(true));
        Rig.due("fences() of " + text, x.fences(), want);
        Rig.due("the empty set is first", x.asked(), 0);
        Rig.due("none judged", x.count(7), 0);
    }

    private static void order() {
        int[] four = {0, 1, 2, 4, 8, 3, 5, 9, 6, 10, 12, 7, 11, 13, 14, 15};
        LitmusRows x = Rig.read("t0: " + Rig.times(5, "w a 1;"));
        x.fences();
        for (int k = 0; k < four.length; k++) {
            Rig.due("set " + k, x.asked(), four[k]);
            Rig.due("asked() changes nothing", x.asked(), four[k]);
            Rig.due("judge", x.judge(false), 0);
            Rig.due("count(7)", x.count(7), k + 1);
        }
        Rig.due("all are known", x.asked(), -1);
        Rig.dueThrow("judge", IllegalStateException.class, () -> x.judge(false));
        Rig.dueThrow("least(0)", IndexOutOfBoundsException.class, () -> x.least(0));
        Rig.due("count(7) stays", x.count(7), 16);
    }

    private static void judges() {
        for (int gaps = 0; gaps <= 8; gaps++) {
            int g = gaps;
            run(gaps, set -> true);
            run(gaps, set -> Integer.bitCount(set) >= 1);
            run(gaps, set -> Integer.bitCount(set) * 2 >= g);
            run(gaps, set -> set == (1 << g) - 1);
            run(gaps, set -> (set & 3) == 3 || (set & 4) != 0);
            run(gaps, set -> (set & 9) == 9 || (set & 22) == 22 || (set & 160) == 160);
            // A judge need not be of one mind: only the sets that forbid so far may count.
            run(gaps, set -> set * 31 % 7 == 3);
        }
        run(10, set -> Integer.bitCount(set) >= 2);
        run(10, set -> Integer.bitCount(set) >= 3);
        run(9, set -> Integer.bitCount(set) >= 4 || (set & 1) != 0);
    }

    private static void run(int gaps, IntPredicate forbids) {
        LitmusRows x = Rig.read("t0:" + Rig.times(gaps + 1, "w a 1;"));
        Rig.due("fences()", x.fences(), gaps);
        List<Integer> known = new ArrayList<>();
        int judged = 0;
        for (int set : words(gaps)) {
            if (known.stream().anyMatch(least -> (set & least) == least)) {
                continue;
            }
            if (judged == MOST_JUDGED) {
                break;
            }
            Rig.due("asked", x.asked(), set);
            boolean answer = forbids.test(set);
            if (answer) {
                known.add(set);
            }
            Rig.due("known", x.judge(answer), known.size());
            judged++;
        }
        Rig.due("count(7)", x.count(7), judged);
        for (int k = 0; k < known.size() && k < 20; k++) {
            Rig.due("least(" + k + ")", x.least(k), known.get(k));
        }
        Rig.dueThrow("least beyond", IndexOutOfBoundsException.class, () -> x.least(known.size()));
        Rig.dueThrow("least(-1)", IndexOutOfBoundsException.class, () -> x.least(-1));
        Rig.dueThrow("least(2^31 - 1)", IndexOutOfBoundsException.class, () -> x.least(Integer.MAX_VALUE));
        if (judged < MOST_JUDGED) {
            Rig.due("asked in the end", x.asked(), -1);
            Rig.dueThrow("judge in the end", IllegalStateException.class, () -> x.judge(true));
        }
    }

    /** All sets by size, those of one size as words of their gaps, a letter for each. */
    static List<Integer> words(int gaps) {
        List<Integer> sets = new ArrayList<>();
        for (int set = 0; set < 1 << gaps; set++) {
            sets.add(set);
        }
        sets.sort((s, t) -> word(s).length() != word(t).length()
                ? Integer.compare(word(s).length(), word(t).length()) : word(s).compareTo(word(t)));
        return sets;
    }

    private static String word(int set) {
        StringBuilder s = new StringBuilder();
        for (int gap = 0; gap < 31; gap++) {
            if ((set >> gap & 1) != 0) {
                s.append((char) ('a' + gap));
            }
        }
        return s.toString();
    }

    private static void startAgain() {
        LitmusRows x = Rig.read("t0: w a 1; r b r0; t1: w b 1; r a r0;");
        x.fences();
        x.judge(false);
        x.judge(true);
        Rig.due("known", x.least(0), 1);
        Rig.due("fences() again", x.fences(), 2);
        Rig.due("from the first one", x.asked(), 0);
        Rig.due("none judged", x.count(7), 0);
        Rig.dueThrow("none known", IndexOutOfBoundsException.class, () -> x.least(0));
        Rig.due("the empty set forbids", x.judge(true), 1);
        Rig.due("so none is asked", x.asked(), -1);
        Rig.due("least(0)", x.least(0), 0);
        Rig.feed(x, "t0: w a 1; w a 2;");
        Rig.due("known until read()", x.least(0), 0);
        x.read();
        Rig.due("asked() behind read()", x.asked(), -1);
        Rig.due("count(7) behind read()", x.count(7), 0);
        Rig.dueThrow("least(0) behind read()", IndexOutOfBoundsException.class, () -> x.least(0));
    }

    private static void placeThem() {
        LitmusRows x = Rig.read("t0: w a 1; r b r0; f; w c 2; w d 3; t1: r a r1; r b r2; exists (t1:r2 = 5)");
        Rig.dueThrow("place(8)", IllegalArgumentException.class, () -> x.place(8));
        Rig.dueThrow("place(-1)", IllegalArgumentException.class, () -> x.place(-1));
        Rig.dueThrow("place(least int)", IllegalArgumentException.class, () -> x.place(Integer.MIN_VALUE));
        Rig.due("nothing is placed", x.count(2), 7);
        Rig.due("place(5)", x.place(5), 2);
        Rig.due("program", Rig.printed(x), "t0: w a 1; f; r b r0; f; w c 2; w d 3;\n"
                + "t1: r a r1; f; r b r2;\nexists (t1:r2 = 5)\n");
        Rig.due("the fence", Rig.action(x, 1), "0,2,-1,-1");
        Rig.due("the other fence", Rig.action(x, 7), "1,2,-1,-1");
        Rig.due("gaps count anew", x.place(1), 1);
        Rig.dueThrow("no gap is left", IllegalArgumentException.class, () -> x.place(1));
        Rig.due("place(0)", x.place(0), 0);
        Rig.due("program", Rig.printed(x), "t0: w a 1; f; r b r0; f; w c 2; f; w d 3;\n"
                + "t1: r a r1; f; r b r2;\nexists (t1:r2 = 5)\n");
    }

    private static void placeLimits() {
        LitmusRows x = Rig.read("t0:" + Rig.times(13, "w a 1;"));
        Rig.dueThrow("25 actions", IllegalStateException.class, () -> x.place((1 << 12) - 1));
        Rig.dueThrow("other gaps come first", IllegalArgumentException.class, () -> x.place((1 << 13) - 1));
        Rig.due("nothing is placed", x.count(2), 13);
        Rig.due("24 actions", x.place((1 << 12) - 2), 11);
        Rig.due("count(2)", x.count(2), 24);
        Rig.dueThrow("no more", IllegalStateException.class, () -> x.place(1));
        Rig.due("nothing", x.place(0), 0);
        LitmusRows y = Rig.read("t0:" + Rig.times(23, "w a 1;"));
        Rig.dueThrow("two more", IllegalStateException.class, () -> y.place(3 << 20));
        Rig.dueThrow("gap 22", IllegalArgumentException.class, () -> y.place(1 << 22));
        Rig.due("gap 21", y.place(1 << 21), 1);
        Rig.due("it stands there", Rig.action(y, 22), "0,2,-1,-1");
        LitmusRows z = Rig.read("t0:" + Rig.times(24, "w a 1;"));
        Rig.dueThrow("gap 22 of 23, full", IllegalStateException.class, () -> z.place(1 << 22));
        Rig.dueThrow("gap 23 of 23", IllegalArgumentException.class, () -> z.place(1 << 23));
    }

    private static void placeAndTrying() {
        LitmusRows x = Rig.read("t0: w a 1; r b r0; w b 1;");
        x.fences();
        x.judge(false);
        x.judge(true);
        Rig.dueThrow("place(4)", IllegalArgumentException.class, () -> x.place(4));
        Rig.due("trying goes on behind an exception", x.asked(), 2);
        Rig.due("place(0)", x.place(0), 0);
        Rig.due("trying ends", x.asked(), -1);
        Rig.dueThrow("judge", IllegalStateException.class, () -> x.judge(true));
        Rig.due("known stays", x.least(0), 1);
        Rig.due("judged stays", x.count(7), 2);
        Rig.due("place(1)", x.place(1), 1);
        Rig.due("known stays", x.least(0), 1);
        Rig.due("fences()", x.fences(), 1);
        Rig.dueThrow("known is gone", IndexOutOfBoundsException.class, () -> x.least(0));

        LitmusRows y = Rig.read("t0:" + Rig.times(12, "w a 1;"));
        Rig.dueThrow("eleven gaps", IllegalStateException.class, y::fences);
        y.place(1 << 10);
        Rig.due("ten gaps now", y.fences(), 10);
    }

    /** Any program of a few actions, any set: a fence stands in each gap of the set. */
    private static void placeAgainstModel() {
        long seed = 99;
        for (int n = 0; n < 3000; n++) {
            StringBuilder text = new StringBuilder();
            StringBuilder want = new StringBuilder();
            List<String> words = new ArrayList<>();
            seed = seed * 6364136223846793005L + 1442695040888963407L;
            int set = (int) (seed >>> 40);
            int gap = 0;
            int used = 0;
            for (int t = 0; t < 3; t++) {
                text.append("t" + t + ":");
                want.append("t" + t + ":");
                words.clear();
                seed = seed * 6364136223846793005L + 1442695040888963407L;
                int size = (int) ((seed >>> 33) % 5);
                for (int k = 0; k < size; k++) {
                    seed = seed * 6364136223846793005L + 1442695040888963407L;
                    String word = new String[] {" f;", " w a 1;", " r b r2;"}[(int) ((seed >>> 33) % 3)];
                    if (k > 0 && !word.equals(" f;") && !words.get(k - 1).equals(" f;")) {
                        if ((set >> gap & 1) != 0) {
                            want.append(" f;");
                            used |= 1 << gap;
                        }
                        gap++;
                    }
                    words.add(word);
                    text.append(word);
                    want.append(word);
                }
                want.append("\n");
            }
            LitmusRows x = Rig.read(text.toString());
            Rig.due("fences() of " + text, x.fences(), gap);
            Rig.due("place of " + used, x.place(used), Integer.bitCount(used));
            Rig.due("placed", Rig.printed(x), want.toString());
        }
    }
}
