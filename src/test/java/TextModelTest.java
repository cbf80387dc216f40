import java.util.ArrayList;
import java.util.Arrays;
import java.util.HashSet;
import java.util.List;
import java.util.Set;
import java.util.regex.Matcher;
import java.util.regex.Pattern;

/** Promises 4, 5 and 15: many texts, most of them broken somewhere, against a second reader. */
final class TextModelTest {
    private static final Pattern LEXEME = Pattern.compile("([a-z][a-z0-9]*)|([0-9]+)|([:;=&()])|([ \n]+)|([\\s\\S])");
    private static final String[] PIECES = {
        "t0", "t1", "t2", "t3", "t4", "t5", ":", ";", "=", "&", "(", ")", "w", "r", "f", "a", "b", "d", "e",
        "r0", "r1", "r9", "r10", "0", "7", "99", "100", "0099", "exists", "forall", "!", "A", "\t", "\u00E9", "\n", "",
    };

    private static long seed = 20260101;

    public static void main(String[] args) {
        int[] seen = new int[6];
        for (int n = 0; n < 120000; n++) {
            List<String> words = program();
            int breaks = below(3);
            for (int b = 0; b < breaks; b++) {
                breakOne(words);
            }
            StringBuilder text = new StringBuilder();
            for (String word : words) {
                boolean sign = word.matches("[:;=&()]");
                text.append(word).append(below(sign ? 2 : 200) == 0 ? "" : below(5) == 0 ? " \n" : " ");
            }
            if (text.length() <= 2048) {
                seen[compare(text.toString())]++;
            }
        }
        System.out.println(Arrays.toString(seen) + " texts without a fault, with fault 1, ..");
        for (int fault = 0; fault <= 5; fault++) {
            Rig.due("fault " + fault + " was met", seen[fault] > 500 ? 1 : 0, 1);
        }
        Rig.finish();
    }

    private static int compare(String text) {
        Model model = new Model(text);
        LitmusRows x = new LitmusRows();
        Rig.feed(x, text);
        if (model.fault != 0) {
            Rig.dueThrow("read() of " + text, IllegalArgumentException.class, x::read);
        } else {
            Rig.due("read() of " + text, x.read(), model.actions);
            String printed = Rig.printed(x);
            Rig.due("print() of " + text, printed, model.printed.toString());
            x.again();
            Rig.due("read() again", x.read(), model.actions);
        }
        Rig.due("fault(0) of " + text, x.fault(0), model.fault);
        Rig.due("fault(1) of " + text, x.fault(1), model.where);
        return model.fault;
    }

    static int below(int n) {
        seed = seed * 6364136223846793005L + 1442695040888963407L;
        return (int) ((seed >>> 33) % n);
    }

    /** The lexemes of any program, most of them without a fault. */
    static List<String> program() {
        List<String> words = new ArrayList<>();
        int threads = 1 + below(below(20) == 0 ? 5 : 4);
        int most = below(6) == 0 ? 16 : 4;
        for (int t = 0; t < threads; t++) {
            words.addAll(List.of("t" + t, ":"));
            for (int k = below(most); k > 0; k--) {
                String place = "abcd".substring(below(4)).substring(0, 1);
                switch (below(5)) {
                    case 0 -> words.addAll(List.of("f", ";"));
                    case 1, 2 -> words.addAll(List.of("w", place, "" + below(below(30) == 0 ? 300 : 100), ";"));
                    default -> words.addAll(List.of("r", place, "r" + below(3), ";"));
                }
            }
        }
        if (below(3) > 0) {
            words.addAll(List.of(below(2) == 0 ? "exists" : "forall", "("));
            int terms = 1 + below(below(6) == 0 ? 19 : 4);
            for (int k = 0; k < terms; k++) {
                boolean register = below(3) == 0;
                words.addAll(register ? List.of("t" + below(threads), ":", "r" + below(3), "=")
                        : List.of("abcd".substring(below(4)).substring(0, 1), "="));
                words.addAll(List.of("" + below(100), k + 1 < terms ? "&" : ")"));
            }
        }
        return words;
    }

    private static void breakOne(List<String> words) {
        int at = below(words.size() + 1);
        String piece = PIECES[below(PIECES.length)];
        switch (below(4)) {
            case 0 -> words.add(at, piece);
            case 1 -> {
                if (at < words.size()) {
                    words.set(at, piece);
                }
            }
            case 2 -> {
                if (at < words.size() && words.size() > 1) {
                    words.remove(at);
                }
            }
            default -> {
            }
        }
    }

    /** Reads lexeme by lexeme, each state a name of what is due next. */
    static final class Model {
        int fault;
        int where;
        int actions;
        final StringBuilder printed = new StringBuilder();
        private int threads;
        private int terms;
        private String due = "first thread";
        private String number = "";
        private String thread = "";
        private int threadWhere;
        private final Set<String> readInto = new HashSet<>();

        Model(String text) {
            Matcher m = LEXEME.matcher(text);
            while (m.find() && fault == 0) {
                if (m.group(4) == null) {
                    where = m.start();
                    if (m.group(5) != null) {
                        fault = 1;
                    } else {
                        step(m.group());
                    }
                }
            }
            if (fault == 0) {
                where = 0;
                if (!due.equals("anything") && !due.equals("nothing")) {
                    fault = 2;
                    where = text.length();
                }
            }
            if (threads > 0 && printed.charAt(printed.length() - 1) != '\n') {
                printed.append("\n");
            }
        }

        private void step(String s) {
            switch (due) {
                case "first thread", "anything" -> beginSomething(s);
                case "colon" -> sign(s, ":", "anything", ":");
                case "place to write" -> match(s, "[a-d]", "number to write", s + " ");
                case "number to write" -> number(s, "semicolon");
                case "place to read" -> match(s, "[a-d]", "register", s + " ");
                case "register" -> {
                    match(s, "r[0-9]", "semicolon", s);
                    readInto.add("t" + (threads - 1) + s);
                }
                case "semicolon" -> sign(s, ";", "anything", ";");
                case "open" -> sign(s, "(", "term", "(");
                case "term" -> beginTerm(s);
                case "term colon" -> sign(s, ":", "term register", ":");
                case "term register" -> {
                    match(s, "r[0-9]", "equals", s);
                    if (fault == 0 && !readInto.contains(thread + s)) {
                        fault = 5;
                        where = threadWhere;
                    }
                }
                case "equals" -> sign(s, "=", "term number", " = ");
                case "term number" -> number(s, "behind term");
                case "behind term" -> {
                    if (s.equals("&")) {
                        sign(s, "&", "term", " & ");
                    } else {
                        sign(s, ")", "nothing", ")\n");
                    }
                }
                default -> fault = 2;
            }
        }

        private void beginSomething(String s) {
            boolean any = due.equals("anything");
            if (s.equals("t" + threads)) {
                fault = threads == 4 ? 4 : 0;
                printed.append(threads > 0 ? "\n" : "").append(s);
                threads++;
                due = "colon";
            } else if (any && s.matches("[wrf]")) {
                fault = actions == 24 ? 4 : 0;
                actions++;
                printed.append(" ").append(s).append(s.equals("f") ? "" : " ");
                due = s.equals("f") ? "semicolon" : s.equals("w") ? "place to write" : "place to read";
            } else if (any && s.matches("exists|forall")) {
                printed.append("\n").append(s).append(" ");
                due = "open";
            } else {
                fault = 2;
            }
        }

        private void beginTerm(String s) {
            if (!s.matches("t[0-3]|[a-d]")) {
                fault = 2;
            } else if (terms == 16) {
                fault = 4;
            } else if (s.length() == 1) {
                due = "equals";
            } else if (s.charAt(1) - '0' >= threads) {
                fault = 5;
            } else {
                thread = s;
                threadWhere = where;
                due = "term colon";
            }
            terms++;
            printed.append(s);
        }

        private void sign(String s, String want, String next, String print) {
            fault = s.equals(want) ? 0 : 2;
            due = next;
            printed.append(print);
        }

        private void match(String s, String want, String next, String print) {
            fault = s.matches(want) ? 0 : 2;
            due = next;
            printed.append(print);
        }

        private void number(String s, String next) {
            if (!s.matches("[0-9]+")) {
                fault = 2;
                return;
            }
            number = s.replaceFirst("^0+(?=.)", "");
            fault = number.length() > 2 ? 3 : 0;
            printed.append(number);
            due = next;
        }
    }
}
