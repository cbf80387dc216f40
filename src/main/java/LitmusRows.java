/**
 * Small programs of several threads that share places: read from texts, made from rings of
 * edges, printed again; sets of fences tried by size and order, as a judge answers, until the
 * least ones that forbid are known.
 */
public final class LitmusRows {
    /** Nothing there. */
    public static final int NONE = -1;

    private static final int WRITE = 0;
    private static final int READ = 1;
    private static final int FENCE = 2;

    private static final int NO_CONDITION = 0;
    private static final int EXISTS = 1;
    private static final int FORALL = 2;

    private static final int MOST_BYTES = 2048;
    private static final int FED_AT_ONCE = 16;
    private static final int MOST_THREADS = 4;
    private static final int MOST_PLACES = 4;
    private static final int MOST_ACTIONS = 24;
    private static final int MOST_TERMS = 16;
    private static final int MOST_NUMBER = 99;
    private static final int MOST_EDGES = 12;
    private static final int LAST_EDGE_KIND = 10;
    private static final int MOST_GAPS_TRIED = 10;

    private final Reader reader;
    private final Text text;
    private final Program program;
    private final Ring ring;
    private final Trial trial;
    private final Sheet sheet;

    public LitmusRows() {
        reader = new Reader();
        text = reader.text;
        program = reader.program;
        ring = new Ring();
        trial = new Trial();
        sheet = new Sheet();
    }

    public int feed(int a, int b, int c, int d) throws IllegalStateException {
        if (text.length + FED_AT_ONCE > MOST_BYTES) {
            throw new IllegalStateException("the text would be too long");
        }
        text.addFour(a);
        text.addFour(b);
        text.addFour(c);
        text.addFour(d);
        return text.length;
    }

    public int end(int n) throws IllegalArgumentException, IllegalStateException {
        if (n < 0 || n > FED_AT_ONCE) {
            throw new IllegalArgumentException("0 to 16 bytes can count");
        }
        if (text.length < FED_AT_ONCE) {
            throw new IllegalStateException("the text has less than sixteen bytes");
        }
        text.length = text.length - FED_AT_ONCE + n;
        return text.length;
    }

    public int read() throws IllegalArgumentException {
        trial.forget();
        reader.begin();
        boolean fits = reader.takeThreads() && reader.takeCondition() && reader.takeNoMore();
        text.length = 0;
        if (!fits) {
            program.clear();
            throw new IllegalArgumentException("the text has a fault");
        }
        return program.actions;
    }

    public int fault(int what) throws IndexOutOfBoundsException {
        if (what != 0 && what != 1) {
            throw new IndexOutOfBoundsException("a fault has a number and a place");
        }
        return what == 0 ? reader.faultNumber : reader.faultPlace;
    }

    public int edge(int kind) throws IllegalArgumentException, UnsupportedOperationException {
        if (kind < 0 || kind > LAST_EDGE_KIND) {
            throw new IllegalArgumentException("no such edge");
        }
        if (ring.edges >= MOST_EDGES) {
            throw new UnsupportedOperationException("twelve edges are told");
        }
        ring.addEdge(kind);
        return ring.edges;
    }

    public int make() throws IllegalStateException {
        boolean closed = ring.isWhole();
        if (closed) {
            ring.writeInto(program);
            trial.forget();
        }
        ring.edges = 0;
        if (!closed) {
            throw new IllegalStateException("the edges are no ring");
        }
        return program.actions;
    }

    public int action(int k, int what) throws IndexOutOfBoundsException {
        if (k < 0 || k >= program.actions || what < 0 || what > 3) {
            throw new IndexOutOfBoundsException("no such action");
        }
        switch (what) {
            case 0:
                return program.threadOf[k];
            case 1:
                return program.kindOf[k];
            case 2:
                return program.placeOf[k];
            default:
                return program.valueOf[k];
        }
    }

    public int term(int k, int what) throws IndexOutOfBoundsException {
        if (k < 0 || k >= program.terms || what < 0 || what > 2) {
            throw new IndexOutOfBoundsException("no such term");
        }
        switch (what) {
            case 0:
                return program.termThread[k];
            case 1:
                return program.termName[k];
            default:
                return program.termNumber[k];
        }
    }

    public int fences() throws IllegalStateException {
        int gaps = program.countGaps();
        if (program.isMissing() || gaps > MOST_GAPS_TRIED) {
            throw new IllegalStateException("no program whose gaps can be tried");
        }
        trial.begin(gaps);
        return gaps;
    }

    public int asked() {
        return trial.set;
    }

    public int judge(boolean forbids) throws IllegalStateException {
        if (trial.set == NONE) {
            throw new IllegalStateException("no set is asked");
        }
        trial.answer(forbids);
        return trial.known;
    }

    public int least(int k) throws IndexOutOfBoundsException {
        if (k < 0 || k >= trial.known) {
            throw new IndexOutOfBoundsException("no such set");
        }
        return trial.forbidding[k];
    }

    public int place(int set) throws IllegalArgumentException, IllegalStateException {
        if (program.isMissing() || (set >>> program.countGaps()) != 0) {
            throw new IllegalArgumentException("the program has no such gaps");
        }
        int added = Integer.bitCount(set);
        if (program.actions + added > MOST_ACTIONS) {
            throw new IllegalStateException("there would be too many actions");
        }
        program.addFences(set);
        trial.stop();
        return added;
    }

    public int print() throws IllegalStateException {
        if (program.isMissing()) {
            throw new IllegalStateException("no program");
        }
        sheet.write(program);
        return sheet.length;
    }

    public int out(int i) throws IndexOutOfBoundsException {
        if (i < 0 || i >= sheet.length) {
            throw new IndexOutOfBoundsException("no such byte");
        }
        return sheet.bytes[i];
    }

    public int again() {
        text.copyFrom(sheet);
        return text.length;
    }

    public int count(int what) {
        switch (what) {
            case 0:
                return text.length;
            case 1:
                return program.threads;
            case 2:
                return program.actions;
            case 3:
                return program.terms;
            case 4:
                return program.condition;
            case 5:
                return ring.edges;
            case 6:
                return sheet.length;
            case 7:
                return trial.judged;
            default:
                return NONE;
        }
    }

    /** The program's rows; without threads there is no program. */
    private static final class Program {
        int threads;
        int actions;
        int terms;
        int condition;
        final int[] threadOf = new int[MOST_ACTIONS];
        final int[] kindOf = new int[MOST_ACTIONS];
        final int[] placeOf = new int[MOST_ACTIONS];
        final int[] valueOf = new int[MOST_ACTIONS];
        final int[] termThread = new int[MOST_TERMS];
        final int[] termName = new int[MOST_TERMS];
        final int[] termNumber = new int[MOST_TERMS];

        void clear() {
            threads = 0;
            actions = 0;
            terms = 0;
            condition = NO_CONDITION;
        }

        boolean isMissing() {
            return threads == 0;
        }

        /** Adds an action to the newest thread. */
        void addAction(int kind, int place, int value) {
            if (actions < MOST_ACTIONS) {
                setAction(actions, threads - 1, kind, place, value);
                actions++;
            }
        }

        void addTerm(int thread, int name, int number) {
            if (terms < MOST_TERMS) {
                termThread[terms] = thread;
                termName[terms] = name;
                termNumber[terms] = number;
                terms++;
            }
        }

        boolean readsInto(int thread, int register) {
            for (int k = 0; k < actions; k++) {
                if (threadOf[k] == thread && kindOf[k] == READ && valueOf[k] == register) {
                    return true;
                }
            }
            return false;
        }

        int countGaps() {
            int gaps = 0;
            for (int k = 0; k + 1 < actions; k++) {
                if (hasGapBehind(k)) {
                    gaps++;
                }
            }
            return gaps;
        }

        /** From the last gap to the first, so that those still to come keep their numbers. */
        void addFences(int set) {
            int gap = countGaps();
            for (int k = actions - 2; k >= 0; k--) {
                if (hasGapBehind(k)) {
                    gap--;
                    if (((set >>> gap) & 1) != 0) {
                        insertFenceBehind(k);
                    }
                }
            }
        }

        private boolean hasGapBehind(int k) {
            return k >= 0 && k + 1 < actions && threadOf[k] == threadOf[k + 1]
                    && kindOf[k] != FENCE && kindOf[k + 1] != FENCE;
        }

        private void insertFenceBehind(int k) {
            if (k < 0 || k >= actions || actions >= MOST_ACTIONS) {
                return;
            }
            for (int j = actions; j > k + 1; j--) {
                setAction(j, threadOf[j - 1], kindOf[j - 1], placeOf[j - 1], valueOf[j - 1]);
            }
            setAction(k + 1, threadOf[k], FENCE, NONE, NONE);
            actions++;
        }

        private void setAction(int k, int thread, int kind, int place, int value) {
            threadOf[k] = thread;
            kindOf[k] = kind;
            placeOf[k] = place;
            valueOf[k] = value;
        }
    }

    /** The bytes that were fed, and the lexeme that stands next in them. */
    private static final class Text {
        static final int NAME = 0;
        static final int NUMBER = 1;
        static final int SIGN = 2;
        static final int STRANGE = 3;
        static final int NO_MORE = 4;

        // Any number that is too great is as good as another, so digits can't run over an int.
        private static final int TOO_GREAT = MOST_NUMBER + 1;

        final byte[] bytes = new byte[MOST_BYTES];
        int length;
        int lexeme;
        int start;
        int stop;
        int number;

        void addFour(int word) {
            for (int shift = 24; shift >= 0 && length < MOST_BYTES; shift -= 8) {
                bytes[length] = (byte) (word >>> shift);
                length++;
            }
        }

        void copyFrom(Sheet sheet) {
            length = 0;
            for (int i = 0; i < sheet.length && i < MOST_BYTES; i++) {
                bytes[i] = sheet.bytes[i];
                length++;
            }
        }

        void goToFirst() {
            stop = 0;
            goOn();
        }

        /** Goes on to the next lexeme; one that is too strange to be any is one byte long. */
        void goOn() {
            while (stop < length && (bytes[stop] == '\n' || bytes[stop] == ' ')) {
                stop++;
            }
            start = stop;
            if (stop >= length) {
                lexeme = NO_MORE;
            } else if (isSmallLetter(bytes[stop])) {
                lexeme = NAME;
                while (stop < length && (isSmallLetter(bytes[stop]) || isDigit(bytes[stop]))) {
                    stop++;
                }
            } else if (isDigit(bytes[stop])) {
                lexeme = NUMBER;
                number = 0;
                while (stop < length && isDigit(bytes[stop])) {
                    number = Math.min(number * 10 + bytes[stop] - '0', TOO_GREAT);
                    stop++;
                }
            } else {
                lexeme = isOneOfTheSigns(bytes[stop]) ? SIGN : STRANGE;
                stop++;
            }
        }

        boolean isSign(char sign) {
            return lexeme == SIGN && start < length && bytes[start] == sign;
        }

        boolean isWord(String word) {
            if (lexeme != NAME || stop - start != word.length() || stop > length) {
                return false;
            }
            for (int i = 0; i < word.length(); i++) {
                if (bytes[start + i] != word.charAt(i)) {
                    return false;
                }
            }
            return true;
        }

        /** The digit of a name that is this letter and one digit, as t0 or r9; else NONE. */
        int digitBehind(char letter) {
            if (lexeme != NAME || stop - start != 2 || stop > length
                    || bytes[start] != letter || !isDigit(bytes[start + 1])) {
                return NONE;
            }
            return bytes[start + 1] - '0';
        }

        /** The place of a name that is one, 0 for a; else NONE. */
        int placeNamed() {
            if (lexeme != NAME || stop - start != 1 || stop > length
                    || bytes[start] - 'a' >= MOST_PLACES) {
                return NONE;
            }
            return bytes[start] - 'a';
        }

        private static boolean isSmallLetter(int b) {
            return b >= 'a' && b <= 'z';
        }

        private static boolean isDigit(int b) {
            return b >= '0' && b <= '9';
        }

        private static boolean isOneOfTheSigns(int b) {
            return b == ':' || b == ';' || b == '=' || b == '&' || b == '(' || b == ')';
        }
    }

    /**
     * Reads its text into its program. What takes something answers whether it was there; if it
     * was not, the fault is told already.
     */
    private static final class Reader {
        private static final int STRANGE_BYTE = 1;
        private static final int MISFIT = 2;
        private static final int NUMBER_TOO_GREAT = 3;
        private static final int ONE_TOO_MANY = 4;
        private static final int NOT_IN_THREADS = 5;

        final Text text = new Text();
        final Program program = new Program();
        int faultNumber;
        int faultPlace;

        void begin() {
            program.clear();
            faultNumber = 0;
            faultPlace = 0;
            text.goToFirst();
        }

        boolean takeThreads() {
            for (int t = 0; t < MOST_THREADS && text.digitBehind('t') == t; t++) {
                if (!takeThread()) {
                    return false;
                }
            }
            if (program.isMissing()) {
                return tellMisfit();
            }
            if (program.threads == MOST_THREADS && text.digitBehind('t') == MOST_THREADS) {
                return tell(ONE_TOO_MANY, text.start);
            }
            return true;
        }

        private boolean takeThread() {
            program.threads++;
            text.goOn();
            if (!takeSign(':')) {
                return false;
            }
            for (int n = 0; n <= MOST_ACTIONS; n++) {
                int kind = kindOfAction();
                if (kind == NONE) {
                    return true;
                }
                if (program.actions >= MOST_ACTIONS) {
                    return tell(ONE_TOO_MANY, text.start);
                }
                text.goOn();
                if (!takeActionBehindWord(kind) || !takeSign(';')) {
                    return false;
                }
            }
            return true;
        }

        private int kindOfAction() {
            if (text.isWord("w")) {
                return WRITE;
            }
            if (text.isWord("r")) {
                return READ;
            }
            return text.isWord("f") ? FENCE : NONE;
        }

        private boolean takeActionBehindWord(int kind) {
            if (kind == FENCE) {
                program.addAction(FENCE, NONE, NONE);
                return true;
            }
            int place = text.placeNamed();
            if (place == NONE) {
                return tellMisfit();
            }
            text.goOn();
            if (kind == WRITE) {
                if (!takeNumber()) {
                    return false;
                }
                program.addAction(WRITE, place, text.number);
            } else {
                int register = text.digitBehind('r');
                if (register == NONE) {
                    return tellMisfit();
                }
                program.addAction(READ, place, register);
            }
            text.goOn();
            return true;
        }

        boolean takeCondition() {
            if (text.isWord("exists")) {
                program.condition = EXISTS;
            } else if (text.isWord("forall")) {
                program.condition = FORALL;
            } else {
                return true;
            }
            text.goOn();
            if (!takeSign('(')) {
                return false;
            }
            for (int n = 0; n <= MOST_TERMS; n++) {
                if (!takeTerm()) {
                    return false;
                }
                if (!text.isSign('&')) {
                    return takeSign(')');
                }
                text.goOn();
            }
            return true;
        }

        private boolean takeTerm() {
            int place = text.placeNamed();
            int thread = text.digitBehind('t');
            if (place == NONE && (thread == NONE || thread >= MOST_THREADS)) {
                return tellMisfit();
            }
            if (program.terms >= MOST_TERMS) {
                return tell(ONE_TOO_MANY, text.start);
            }
            int name = place;
            if (place == NONE) {
                if (!takeThreadAndColon(thread)) {
                    return false;
                }
                name = text.digitBehind('r');
            }
            text.goOn();
            if (!takeSign('=') || !takeNumber()) {
                return false;
            }
            program.addTerm(thread, name, text.number);
            text.goOn();
            return true;
        }

        /** Stops at the register, which the thread reads into. */
        private boolean takeThreadAndColon(int thread) {
            int where = text.start;
            if (thread >= program.threads) {
                return tell(NOT_IN_THREADS, where);
            }
            text.goOn();
            if (!takeSign(':')) {
                return false;
            }
            int register = text.digitBehind('r');
            if (register == NONE) {
                return tellMisfit();
            }
            return program.readsInto(thread, register) || tell(NOT_IN_THREADS, where);
        }

        /** Stops at the number, which the caller keeps before it goes on. */
        private boolean takeNumber() {
            if (text.lexeme != Text.NUMBER) {
                return tellMisfit();
            }
            return text.number <= MOST_NUMBER || tell(NUMBER_TOO_GREAT, text.start);
        }

        private boolean takeSign(char sign) {
            if (!text.isSign(sign)) {
                return tellMisfit();
            }
            text.goOn();
            return true;
        }

        boolean takeNoMore() {
            return text.lexeme == Text.NO_MORE || tellMisfit();
        }

        private boolean tellMisfit() {
            return tell(text.lexeme == Text.STRANGE ? STRANGE_BYTE : MISFIT, text.start);
        }

        private boolean tell(int number, int where) {
            faultNumber = number;
            faultPlace = where;
            return false;
        }
    }

    /** The edges that are told, and the program of the ring that they are. */
    private static final class Ring {
        private static final int LAST_OF_TWO_THREADS = 2;
        private static final int FIRST_WITH_FENCE = 7;
        private static final int LEAST_OF_A_SORT = 2;
        private static final int MOST_OF_A_SORT = 4;

        // Of each kind of edge, what it comes from and what it leads to: 0 a write, 1 a read.
        private static final int[] COMES_FROM = {0, 1, 0, 0, 0, 1, 1, 0, 0, 1, 1};
        private static final int[] LEADS_TO = {1, 0, 0, 0, 1, 0, 1, 0, 1, 0, 1};

        private final int[] kinds = new int[MOST_EDGES];
        private final int[] numbers = new int[MOST_EDGES];
        private final int[] greatest = new int[MOST_PLACES];
        int edges;

        void addEdge(int kind) {
            if (edges < MOST_EDGES) {
                kinds[edges] = kind;
                edges++;
            }
        }

        boolean isWhole() {
            int ofTwo = 0;
            for (int e = 0; e < edges; e++) {
                int next = e + 1 < edges ? e + 1 : 0;
                if (LEADS_TO[kinds[e]] != COMES_FROM[kinds[next]]) {
                    return false;
                }
                if (isOfTwoThreads(e)) {
                    ofTwo++;
                }
            }
            int ofOne = edges - ofTwo;
            return ofTwo >= LEAST_OF_A_SORT && ofTwo <= MOST_OF_A_SORT
                    && ofOne >= LEAST_OF_A_SORT && ofOne <= MOST_OF_A_SORT
                    && isOfTwoThreads(edges - 1);
        }

        /** Only for a ring that is whole. */
        void writeInto(Program program) {
            int places = countPlaces();
            numberRows(places);
            program.clear();
            addActions(program, places);
            addReadTerms(program);
            addPlaceTerms(program, places);
            program.condition = program.terms > 0 ? EXISTS : NO_CONDITION;
        }

        private boolean isOfTwoThreads(int e) {
            return e >= 0 && e < edges && kinds[e] <= LAST_OF_TWO_THREADS;
        }

        private int countPlaces() {
            int places = 0;
            for (int e = 0; e < edges; e++) {
                if (!isOfTwoThreads(e)) {
                    places++;
                }
            }
            return Math.min(places, MOST_PLACES);
        }

        /**
         * The number that each action writes or reads. A read sees as many writes as are before
         * it in its row, so both sorts of reads take the row's number of the moment.
         */
        private void numberRows(int places) {
            int place = 0;
            int writes = 0;
            int at = firstOfRowOfA();
            for (int n = 0; n < edges; n++) {
                if (COMES_FROM[kinds[at]] == WRITE) {
                    writes++;
                }
                numbers[at] = writes;
                if (!isOfTwoThreads(at)) {
                    if (place < places) {
                        greatest[place] = writes;
                    }
                    place++;
                    writes = 0;
                }
                at = at + 1 < edges ? at + 1 : 0;
            }
        }

        /** The row of a goes over the ring's end: it begins behind the last edge of one thread. */
        private int firstOfRowOfA() {
            int first = edges - 1;
            while (first > 0 && isOfTwoThreads(first - 1)) {
                first--;
            }
            return Math.max(first, 0);
        }

        private void addActions(Program program, int places) {
            int place = 0;
            int register = 0;
            program.threads = 1;
            for (int e = 0; e < edges; e++) {
                if (COMES_FROM[kinds[e]] == READ) {
                    program.addAction(READ, place, register);
                    register++;
                } else {
                    program.addAction(WRITE, place, numbers[e]);
                }
                if (!isOfTwoThreads(e)) {
                    place = place + 1 < places ? place + 1 : 0;
                    if (kinds[e] >= FIRST_WITH_FENCE) {
                        program.addAction(FENCE, NONE, NONE);
                    }
                } else if (e + 1 < edges) {
                    program.threads++;
                    register = 0;
                }
            }
        }

        /** The ring's actions stand thread by thread, so its reads do as well. */
        private void addReadTerms(Program program) {
            int thread = 0;
            int register = 0;
            for (int e = 0; e < edges; e++) {
                if (COMES_FROM[kinds[e]] == READ) {
                    program.addTerm(thread, register, numbers[e]);
                    register++;
                }
                if (isOfTwoThreads(e)) {
                    thread++;
                    register = 0;
                }
            }
        }

        private void addPlaceTerms(Program program, int places) {
            for (int place = 0; place < places && place < MOST_PLACES; place++) {
                if (greatest[place] >= 2) {
                    program.addTerm(NONE, place, greatest[place]);
                }
            }
        }
    }

    /** The sets of gaps that are tried, as bits, and those known to forbid. */
    private static final class Trial {
        // Of ten gaps no more sets than those of five stand side by side, none in another.
        private static final int MOST_KNOWN = 252;
        private static final int MOST_SETS = 1 << MOST_GAPS_TRIED;

        final int[] forbidding = new int[MOST_KNOWN];
        int known;
        int judged;
        int set = NONE;
        private int gaps;

        void forget() {
            known = 0;
            judged = 0;
            set = NONE;
        }

        void begin(int gapsThere) {
            known = 0;
            judged = 0;
            set = 0;
            gaps = gapsThere;
        }

        void stop() {
            set = NONE;
        }

        void answer(boolean forbids) {
            judged++;
            if (forbids && known < MOST_KNOWN) {
                forbidding[known] = set;
                known++;
            }
            set = setBehind(set);
            for (int n = 0; n < MOST_SETS && set != NONE && hasOneThatForbids(); n++) {
                set = setBehind(set);
            }
        }

        private boolean hasOneThatForbids() {
            for (int k = 0; k < known; k++) {
                if ((set & forbidding[k]) == forbidding[k]) {
                    return true;
                }
            }
            return false;
        }

        /**
         * The next set like words: gaps at the very end can't move up, so the one below them
         * does and they follow right behind it; when there is none below, a size is done.
         */
        private int setBehind(int before) {
            int rest = before;
            int moved = 1;
            int high = gaps - 1;
            while (high >= 0 && ((rest >>> high) & 1) != 0) {
                rest = rest ^ (1 << high);
                moved++;
                high--;
            }
            if (rest == 0) {
                return moved > gaps ? NONE : (1 << moved) - 1;
            }
            while (high > 0 && ((rest >>> high) & 1) == 0) {
                high--;
            }
            return (rest ^ (1 << high)) | (((1 << moved) - 1) << (high + 1));
        }
    }

    /** What was printed last. */
    private static final class Sheet {
        // Four threads, 24 actions and 16 terms at their longest are 423 bytes.
        private static final int MOST_PRINTED = 448;

        final byte[] bytes = new byte[MOST_PRINTED];
        int length;

        void write(Program program) {
            length = 0;
            int k = 0;
            for (int t = 0; t < program.threads; t++) {
                addNamed('t', t);
                add(':');
                while (k < program.actions && program.threadOf[k] == t) {
                    addAction(program.kindOf[k], program.placeOf[k], program.valueOf[k]);
                    k++;
                }
                add('\n');
            }
            if (program.condition != NO_CONDITION) {
                addCondition(program);
            }
        }

        private void addAction(int kind, int place, int value) {
            if (kind == FENCE) {
                addAll(" f;");
                return;
            }
            addAll(kind == WRITE ? " w " : " r ");
            add('a' + place);
            add(' ');
            if (kind == WRITE) {
                addNumber(value);
            } else {
                addNamed('r', value);
            }
            add(';');
        }

        private void addCondition(Program program) {
            addAll(program.condition == EXISTS ? "exists (" : "forall (");
            for (int k = 0; k < program.terms; k++) {
                if (k > 0) {
                    addAll(" & ");
                }
                if (program.termThread[k] == NONE) {
                    add('a' + program.termName[k]);
                } else {
                    addNamed('t', program.termThread[k]);
                    add(':');
                    addNamed('r', program.termName[k]);
                }
                addAll(" = ");
                addNumber(program.termNumber[k]);
            }
            addAll(")\n");
        }

        private void addNamed(char letter, int digit) {
            add(letter);
            add('0' + digit);
        }

        private void addNumber(int number) {
            if (number > 9) {
                add('0' + number / 10);
            }
            add('0' + number % 10);
        }

        private void addAll(String word) {
            for (int i = 0; i < word.length(); i++) {
                add(word.charAt(i));
            }
        }

        private void add(int b) {
            if (length < MOST_PRINTED) {
                bytes[length] = (byte) b;
                length++;
            }
        }
    }
}
