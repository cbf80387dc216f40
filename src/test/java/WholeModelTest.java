import java.util.ArrayList;
import java.util.List;
import java.util.regex.Matcher;
import java.util.regex.Pattern;

/** All promises: any calls in any order on one object, each answer against a second maker's. */
final class WholeModelTest {
    private static final int RUNS = 1500;
    // What an object answers behind its 512th call is free.
    private static final int CALLS = 512;
    private static final int[] ODD = {-1, 0, 1, 2, 3, 4, 7, 8, 11, 12, 15, 16, 17, 23, 24, 1 << 10, 1 << 23,
        Integer.MIN_VALUE, Integer.MAX_VALUE};

    private static LitmusRows x;
    private static Model model;
    private static int calls;
    private static int refused;

    public static void main(String[] args) {
        int all = 0;
        for (int run = 0; run < RUNS; run++) {
            x = new LitmusRows();
            model = new Model();
            calls = 0;
            while (calls < CALLS) {
                step();
            }
            all += CALLS;
        }
        System.out.println(all + " calls, " + refused + " of them refused");
        Rig.due("enough of them are refused, and not too many", refused > all / 10 && refused < all / 2 ? 1 : 0, 1);
        Rig.finish();
    }

    private static void step() {
        switch (below(14)) {
            case 0 -> aText();
            case 1 -> aRing();
            case 2 -> call("read", 0, 0);
            case 3 -> call("make", 0, 0);
            case 4 -> call("fences", 0, 0);
            case 5 -> aSearch();
            case 6 -> call("place", below(3) == 0 ? odd() : below(1 << below(12)), 0);
            case 7 -> {
                call("print", 0, 0);
                call("out", below(2) == 0 ? model.printed.length() - below(2) : below(60), 0);
            }
            case 8 -> call("again", 0, 0);
            case 9 -> call("end", below(3) == 0 ? odd() : below(17), 0);
            case 10 -> call("edge", below(4) == 0 ? odd() : below(11), 0);
            case 11 -> call("least", below(3) == 0 ? odd() : below(model.known.size() + 1), 0);
            case 12 -> lookRound();
            default -> call("fault", below(8) == 0 ? odd() : below(2), 0);
        }
    }

    private static void aText() {
        StringBuilder text = new StringBuilder();
        for (String word : TextModelTest.program()) {
            text.append(below(60) == 0 ? "x" : word).append(below(3) == 0 ? "\n" : " ");
        }
        if (below(20) == 0) {
            text.append(Rig.times(2048 - below(40), " "));
        }
        for (int i = 0; i < text.length() && calls < CALLS; i += 16) {
            String some = text.substring(i, Math.min(i + 16, text.length()));
            feed(some + Rig.times(16 - some.length(), "\0"));
            if (some.length() < 16) {
                call("end", some.length(), 0);
            }
        }
        if (below(4) > 0) {
            call("read", 0, 0);
        }
    }

    private static void aRing() {
        int size = 4 + below(5);
        List<Integer> kinds = new ArrayList<>();
        for (int tries = 0; tries < 400; tries++) {
            kinds.clear();
            for (int e = 0; e < size; e++) {
                kinds.add(below(2) == 0 ? below(3) : below(11));
            }
            if (RingTest.model(kinds) != null) {
                break;
            }
        }
        for (int kind : kinds) {
            call("edge", kind, 0);
        }
        call("make", 0, 0);
    }

    private static void aSearch() {
        int mood = below(8);
        for (int n = below(12); n > 0; n--) {
            call("asked", 0, 0);
            call("judge", below(8) <= mood ? 0 : 1, 0);
        }
    }

    private static void lookRound() {
        for (int what = 0; what <= 7; what++) {
            call("count", what, 0);
        }
        call("count", odd(), 0);
        for (int n = 0; n < 4; n++) {
            call("action", below(8) == 0 ? odd() : below(model.actions().size() + 1), below(8) == 0 ? odd() : below(4));
            call("term", below(8) == 0 ? odd() : below(model.terms().size() + 1), below(8) == 0 ? odd() : below(3));
        }
    }

    private static int odd() {
        return ODD[below(ODD.length)];
    }

    private static int below(int n) {
        return TextModelTest.below(n);
    }

    private static void feed(String sixteen) {
        int[] words = new int[4];
        for (int i = 0; i < 16; i++) {
            words[i / 4] = words[i / 4] << 8 | sixteen.charAt(i);
        }
        if (calls++ >= CALLS) {
            return;
        }
        compare("feed", () -> x.feed(words[0], words[1], words[2], words[3]), () -> model.feed(sixteen));
    }

    private static void call(String name, int a, int b) {
        if (calls++ >= CALLS) {
            return;
        }
        compare(name + "(" + a + ", " + b + ")", () -> answer(name, a, b), () -> model.answer(name, a, b));
    }

    private static long answer(String name, int a, int b) {
        return switch (name) {
            case "end" -> x.end(a);
            case "read" -> x.read();
            case "fault" -> x.fault(a);
            case "edge" -> x.edge(a);
            case "make" -> x.make();
            case "action" -> x.action(a, b);
            case "term" -> x.term(a, b);
            case "fences" -> x.fences();
            case "asked" -> x.asked();
            case "judge" -> x.judge(a != 0);
            case "least" -> x.least(a);
            case "place" -> x.place(a);
            case "print" -> x.print();
            case "out" -> x.out(a);
            case "again" -> x.again();
            default -> x.count(a);
        };
    }

    private static void compare(String what, Rig.Call real, Rig.Call due) {
        long want;
        try {
            want = due.answer();
        } catch (IllegalStateException | IllegalArgumentException | IndexOutOfBoundsException
                | UnsupportedOperationException e) {
            refused++;
            Rig.dueThrow(what, e.getClass().asSubclass(RuntimeException.class), real);
            return;
        }
        Rig.due(what, real.answer(), want);
    }

    /** The document's words over texts and lists; a program is what is printed of it. */
    private static final class Model {
        private static final Pattern ACTION = Pattern.compile("(w) ([a-d]) (\\d+);|(r) ([a-d]) r(\\d);|(f);");
        private static final Pattern TERM = Pattern.compile("(?:t(\\d):r(\\d)|([a-d])) = (\\d+)");

        String text = "";
        String program;
        String printed = "";
        int fault;
        int where;
        int judged;
        final List<Integer> edges = new ArrayList<>();
        final List<Integer> toAsk = new ArrayList<>();
        final List<Integer> known = new ArrayList<>();

        long answer(String name, int a, int b) {
            return switch (name) {
                case "end" -> end(a);
                case "read" -> read();
                case "fault" -> List.of(fault, where).get(a);
                case "edge" -> edge(a);
                case "make" -> make();
                case "action" -> actions().get(a)[looked(b, 4)];
                case "term" -> terms().get(a)[looked(b, 3)];
                case "fences" -> fences();
                case "asked" -> toAsk.isEmpty() ? -1 : toAsk.get(0);
                case "judge" -> judge(a != 0);
                case "least" -> known.get(a);
                case "place" -> place(a);
                case "print" -> print();
                case "out" -> printed.charAt(looked(a, printed.length()));
                case "again" -> (text = printed).length();
                default -> a < 0 || a > 7 ? -1 : counts()[a];
            };
        }

        private static int looked(int index, int below) {
            if (index < 0 || index >= below) {
                throw new IndexOutOfBoundsException();
            }
            return index;
        }

        private static void refuseIf(boolean isSo, RuntimeException e) {
            if (isSo) {
                throw e;
            }
        }

        long feed(String sixteen) {
            refuseIf(text.length() + 16 > 2048, new IllegalStateException());
            text += sixteen;
            return text.length();
        }

        private long end(int n) {
            refuseIf(n < 0 || n > 16, new IllegalArgumentException());
            refuseIf(text.length() < 16, new IllegalStateException());
            text = text.substring(0, text.length() - 16 + n);
            return text.length();
        }

        private long read() {
            TextModelTest.Model reader = new TextModelTest.Model(text);
            fault = reader.fault;
            where = reader.where;
            text = "";
            come(fault == 0 ? reader.printed.toString() : null);
            refuseIf(fault != 0, new IllegalArgumentException());
            return actions().size();
        }

        private void come(String newProgram) {
            program = newProgram;
            toAsk.clear();
            known.clear();
            judged = 0;
        }

        private long edge(int kind) {
            refuseIf(kind < 0 || kind > 10, new IllegalArgumentException());
            refuseIf(edges.size() == 12, new UnsupportedOperationException());
            edges.add(kind);
            return edges.size();
        }

        private long make() {
            String made = RingTest.model(edges);
            edges.clear();
            refuseIf(made == null, new IllegalStateException());
            come(made);
            return actions().size();
        }

        List<int[]> actions() {
            List<int[]> rows = new ArrayList<>();
            for (int t = 0; t < threads(); t++) {
                Matcher m = ACTION.matcher(program.split("\n")[t]);
                while (m.find()) {
                    if (m.group(1) != null) {
                        rows.add(new int[] {t, 0, m.group(2).charAt(0) - 'a', Integer.parseInt(m.group(3))});
                    } else if (m.group(4) != null) {
                        rows.add(new int[] {t, 1, m.group(5).charAt(0) - 'a', Integer.parseInt(m.group(6))});
                    } else {
                        rows.add(new int[] {t, 2, -1, -1});
                    }
                }
            }
            return rows;
        }

        List<int[]> terms() {
            List<int[]> rows = new ArrayList<>();
            Matcher m = TERM.matcher(condition());
            while (m.find()) {
                boolean place = m.group(3) != null;
                rows.add(new int[] {place ? -1 : Integer.parseInt(m.group(1)),
                    place ? m.group(3).charAt(0) - 'a' : Integer.parseInt(m.group(2)), Integer.parseInt(m.group(4))});
            }
            return rows;
        }

        private int threads() {
            return program == null ? 0 : (int) program.lines().filter(line -> line.startsWith("t")).count();
        }

        private String condition() {
            return program == null ? "" : program.lines().filter(line -> !line.startsWith("t")).findFirst().orElse("");
        }

        private int gaps() {
            return program == null ? 0 : program.split("[a-d] r?\\d+; (?=[wr])", -1).length - 1;
        }

        private long fences() {
            refuseIf(program == null || gaps() > 10, new IllegalStateException());
            known.clear();
            judged = 0;
            toAsk.clear();
            toAsk.addAll(FenceTest.words(gaps()));
            return gaps();
        }

        private long judge(boolean forbids) {
            refuseIf(toAsk.isEmpty(), new IllegalStateException());
            int set = toAsk.remove(0);
            judged++;
            if (forbids) {
                known.add(set);
                toAsk.removeIf(other -> (other & set) == set);
            }
            return known.size();
        }

        private long place(int set) {
            refuseIf(program == null || set < 0 || set >= 1 << gaps(), new IllegalArgumentException());
            refuseIf(actions().size() + Integer.bitCount(set) > 24, new IllegalStateException());
            Matcher m = Pattern.compile("(?<=[a-d] r?\\d{1,2};) (?=[wr])").matcher(program);
            int[] gap = {0};
            program = m.replaceAll(found -> (set >> gap[0]++ & 1) != 0 ? " f; " : " ");
            toAsk.clear();
            return Integer.bitCount(set);
        }

        private long print() {
            refuseIf(program == null, new IllegalStateException());
            printed = program;
            return printed.length();
        }

        private int[] counts() {
            int kind = condition().startsWith("exists") ? 1 : condition().startsWith("forall") ? 2 : 0;
            return new int[] {text.length(), threads(), actions().size(), terms().size(), kind, edges.size(),
                printed.length(), judged};
        }
    }
}
